def f_X11_jump (D : am_D) : Option (Int32) :=
    (f_X7_widestStep 74 D).bind fun x2 =>
    some x2
set_option maxRecDepth 100000 in
set_option maxHeartbeats 4000000 in
theorem c_X11_jump {E : am_E} (hE : am_EH E) {D : am_D} {r : Int32}  (hf : f_X11_jump D = some r) : am_C E mX11_jump 3 0 0 [.ref 16] am_G0 D (.inl (some (.int r))) am_G0 D := by
  refine am_C_of (by decide +kernel) (Nat.le_of_ble_eq_true rfl) ?_
  change am_S E mX11_jump 3 0 0 (.inl (some (.int r))) am_G0 D 0 0 0 [(0, .ref 16)] [] am_G0 D
  unfold f_X11_jump at hf
  refine am_aload_n (am_dec tmX11_jump 0 rfl) rfl rfl ?_
  refine am_getR (j := 4) hE (am_dec tmX11_jump 1 rfl) sh_16 cf11 (by decide) rfl lf_X11_33 rf_16_4 ?_
  refine am_getR (j := 1) hE (am_dec tmX11_jump 2 rfl) sh_71 cf3 (by decide) rfl lf_X11_197 rf_71_1 ?_
  obtain ⟨x2, g1, hf⟩ := am_bd hf
  refine am_callV1 (As := []) (st := []) hE (am_dec tmX11_jump 3 rfl) ok_X7_widestStep rfl lm_X11_309 in_X7_widestStep se_X7_widestStep sh_74 cf7 (c_X7_widestStep hE sh_74 g1) rfl (by decide) (Nat.le_of_ble_eq_true rfl) (Nat.zero_le _) (Nat.zero_le _) rfl ?_
  have hf := Option.some.inj hf
  subst hf
  exact am_iret (am_dec tmX11_jump 4 rfl) rfl (Nat.zero_le _) (Nat.zero_le _)
def f_X11_crossing (p1 : Int32) (p2 : Int32) (D : am_D) : Option ((String × am_D) ⊕ (Int32 × am_D)) :=
    am_btD (f_X11_soundOf p1 D) D fun x2 =>
    (f_X2_find x2 D).bind fun x4 =>
    (f_X2_at p2 x4).bind fun x6 =>
    some (.inr (x6, x4))
set_option maxRecDepth 100000 in
set_option maxHeartbeats 4000000 in
theorem c_X11_crossing {E : am_E} (hE : am_EH E) {p1 : Int32} {p2 : Int32} {D : am_D} {r : (Int32 × am_D)}  (hf : f_X11_crossing p1 p2 D = some (.inr r)) : am_C E mX11_crossing 3 0 0 [.ref 16, .int p1, .int p2] am_G0 D (.inl (some (.int r.1))) am_G0 r.2 := by
  refine am_C_of (by decide +kernel) (Nat.le_of_ble_eq_true rfl) ?_
  change am_S E mX11_crossing 3 0 0 (.inl (some (.int r.1))) am_G0 r.2 0 0 0 [(0, .ref 16), (1, .int p1), (2, .int p2)] [] am_G0 D
  unfold f_X11_crossing at hf
  refine am_aload_n (am_dec tmX11_crossing 0 rfl) rfl rfl ?_
  refine am_getR (j := 11) hE (am_dec tmX11_crossing 1 rfl) sh_16 cf11 (by decide) rfl lf_X11_72 rf_16_11 ?_
  refine am_aload_n (am_dec tmX11_crossing 2 rfl) rfl rfl ?_
  refine am_iload_n (am_dec tmX11_crossing 3 rfl) rfl rfl ?_
  obtain ⟨x2, g1, hf⟩ := am_btDR hf
  have h_x2 := k_X11_soundOf g1
  refine am_callV1 (As := [.int p1]) (st := [.ref 112]) hE (am_dec tmX11_crossing 4 rfl) ok_X11_soundOf rfl lm_X11_130 in_X11_soundOf se_X11_soundOf sh_16 cf11 (c_X11_soundOf hE g1) rfl (by decide) (Nat.le_of_ble_eq_true rfl) (Nat.zero_le _) (Nat.zero_le _) rfl ?_
  obtain ⟨x4, g3, hf⟩ := am_bd hf
  refine am_callV0 (As := [.ref x2]) (st := []) hE (am_dec tmX11_crossing 5 rfl) ok_X2_find rfl lm_X11_312 in_X2_find se_X2_find sh_112 cf2 (c_X2_find hE h_x2 g3) rfl (by decide) (Nat.le_of_ble_eq_true rfl) (Nat.zero_le _) (Nat.zero_le _) rfl ?_
  refine am_aload_n (am_dec tmX11_crossing 6 rfl) rfl rfl ?_
  refine am_getR (j := 11) hE (am_dec tmX11_crossing 7 rfl) sh_16 cf11 (by decide) rfl lf_X11_72 rf_16_11 ?_
  refine am_iload_n (am_dec tmX11_crossing 8 rfl) rfl rfl ?_
  obtain ⟨x6, g5, hf⟩ := am_bd hf
  refine am_callV1 (As := [.int p2]) (st := []) hE (am_dec tmX11_crossing 9 rfl) ok_X2_at rfl lm_X11_314 in_X2_at se_X2_at sh_112 cf2 (c_X2_at hE g5) rfl (by decide) (Nat.le_of_ble_eq_true rfl) (Nat.zero_le _) (Nat.zero_le _) rfl ?_
  have hf := Sum.inr.inj (Option.some.inj hf)
  subst hf
  exact am_iret (am_dec tmX11_crossing 10 rfl) rfl (Nat.zero_le _) (Nat.zero_le _)
set_option maxRecDepth 100000 in
set_option maxHeartbeats 4000000 in
theorem t_X11_crossing {E : am_E} (hE : am_EH E) {p1 : Int32} {p2 : Int32} {D : am_D} {r : String × am_D}  (hf : f_X11_crossing p1 p2 D = some (.inl r)) : am_C E mX11_crossing 3 1 6 [.ref 16, .int p1, .int p2] am_G0 D (.inr r.1) am_G0 r.2 := by
  refine am_C_of (by decide +kernel) (Nat.le_of_ble_eq_true rfl) ?_
  change am_S E mX11_crossing 3 1 6 (.inr r.1) am_G0 r.2 0 0 0 [(0, .ref 16), (1, .int p1), (2, .int p2)] [] am_G0 D
  unfold f_X11_crossing at hf
  refine am_aload_n (am_dec tmX11_crossing 0 rfl) rfl rfl ?_
  refine am_getR (j := 11) hE (am_dec tmX11_crossing 1 rfl) sh_16 cf11 (by decide) rfl lf_X11_72 rf_16_11 ?_
  refine am_aload_n (am_dec tmX11_crossing 2 rfl) rfl rfl ?_
  refine am_iload_n (am_dec tmX11_crossing 3 rfl) rfl rfl ?_
  rcases am_btDT hf with ⟨g1, eD⟩ | ⟨x2, g1, hf⟩
  · rw [eD]
    exact am_callV_out (As := [.int p1]) (st := [.ref 112]) hE (am_dec tmX11_crossing 4 rfl) ok_X11_soundOf rfl lm_X11_130 in_X11_soundOf se_X11_soundOf sh_16 cf11 (t_X11_soundOf hE g1) rfl (by decide) (Nat.le_of_ble_eq_true rfl) (Nat.le_refl _) (Nat.le_refl _) rfl rfl
  · have h_x2 := k_X11_soundOf g1
    refine am_callV1 (As := [.int p1]) (st := [.ref 112]) hE (am_dec tmX11_crossing 4 rfl) ok_X11_soundOf rfl lm_X11_130 in_X11_soundOf se_X11_soundOf sh_16 cf11 (c_X11_soundOf hE g1) rfl (by decide) (Nat.le_of_ble_eq_true rfl) (Nat.zero_le _) (Nat.zero_le _) rfl ?_
    obtain ⟨x4, g3, hf⟩ := am_bd hf
    refine am_callV0 (As := [.ref x2]) (st := []) hE (am_dec tmX11_crossing 5 rfl) ok_X2_find rfl lm_X11_312 in_X2_find se_X2_find sh_112 cf2 (c_X2_find hE h_x2 g3) rfl (by decide) (Nat.le_of_ble_eq_true rfl) (Nat.zero_le _) (Nat.zero_le _) rfl ?_
    refine am_aload_n (am_dec tmX11_crossing 6 rfl) rfl rfl ?_
    refine am_getR (j := 11) hE (am_dec tmX11_crossing 7 rfl) sh_16 cf11 (by decide) rfl lf_X11_72 rf_16_11 ?_
    refine am_iload_n (am_dec tmX11_crossing 8 rfl) rfl rfl ?_
    obtain ⟨x6, g5, hf⟩ := am_bd hf
    refine am_callV1 (As := [.int p2]) (st := []) hE (am_dec tmX11_crossing 9 rfl) ok_X2_at rfl lm_X11_314 in_X2_at se_X2_at sh_112 cf2 (c_X2_at hE g5) rfl (by decide) (Nat.le_of_ble_eq_true rfl) (Nat.zero_le _) (Nat.zero_le _) rfl ?_
    cases hf
def f_X11_period (p1 : Int32) (D : am_D) : Option ((String × am_D) ⊕ (Int32 × am_D)) :=
    am_btD (f_X11_soundOf p1 D) D fun x2 =>
    (f_X2_find x2 D).bind fun x4 =>
    (f_X2_hundredths x4).bind fun x6 =>
    some (.inr (x6, x4))
set_option maxRecDepth 100000 in
set_option maxHeartbeats 4000000 in
theorem c_X11_period {E : am_E} (hE : am_EH E) {p1 : Int32} {D : am_D} {r : (Int32 × am_D)}  (hf : f_X11_period p1 D = some (.inr r)) : am_C E mX11_period 4 0 0 [.ref 16, .int p1] am_G0 D (.inl (some (.int r.1))) am_G0 r.2 := by
  refine am_C_of (by decide +kernel) (Nat.le_of_ble_eq_true rfl) ?_
  change am_S E mX11_period 4 0 0 (.inl (some (.int r.1))) am_G0 r.2 0 0 0 [(0, .ref 16), (1, .int p1)] [] am_G0 D
  unfold f_X11_period at hf
  refine am_aload_n (am_dec tmX11_period 0 rfl) rfl rfl ?_
  refine am_getR (j := 11) hE (am_dec tmX11_period 1 rfl) sh_16 cf11 (by decide) rfl lf_X11_72 rf_16_11 ?_
  refine am_aload_n (am_dec tmX11_period 2 rfl) rfl rfl ?_
  refine am_iload_n (am_dec tmX11_period 3 rfl) rfl rfl ?_
  obtain ⟨x2, g1, hf⟩ := am_btDR hf
  have h_x2 := k_X11_soundOf g1
  refine am_callV1 (As := [.int p1]) (st := [.ref 112]) hE (am_dec tmX11_period 4 rfl) ok_X11_soundOf rfl lm_X11_130 in_X11_soundOf se_X11_soundOf sh_16 cf11 (c_X11_soundOf hE g1) rfl (by decide) (Nat.le_of_ble_eq_true rfl) (Nat.zero_le _) (Nat.zero_le _) rfl ?_
  obtain ⟨x4, g3, hf⟩ := am_bd hf
  refine am_callV0 (As := [.ref x2]) (st := []) hE (am_dec tmX11_period 5 rfl) ok_X2_find rfl lm_X11_312 in_X2_find se_X2_find sh_112 cf2 (c_X2_find hE h_x2 g3) rfl (by decide) (Nat.le_of_ble_eq_true rfl) (Nat.zero_le _) (Nat.zero_le _) rfl ?_
  refine am_aload_n (am_dec tmX11_period 6 rfl) rfl rfl ?_
  refine am_getR (j := 11) hE (am_dec tmX11_period 7 rfl) sh_16 cf11 (by decide) rfl lf_X11_72 rf_16_11 ?_
  obtain ⟨x6, g5, hf⟩ := am_bd hf
  refine am_callV1 (As := []) (st := []) hE (am_dec tmX11_period 8 rfl) ok_X2_hundredths rfl lm_X11_315 in_X2_hundredths se_X2_hundredths sh_112 cf2 (c_X2_hundredths hE g5) rfl (by decide) (Nat.le_of_ble_eq_true rfl) (Nat.zero_le _) (Nat.zero_le _) rfl ?_
  have hf := Sum.inr.inj (Option.some.inj hf)
  subst hf
  exact am_iret (am_dec tmX11_period 9 rfl) rfl (Nat.zero_le _) (Nat.zero_le _)
set_option maxRecDepth 100000 in
set_option maxHeartbeats 4000000 in
theorem t_X11_period {E : am_E} (hE : am_EH E) {p1 : Int32} {D : am_D} {r : String × am_D}  (hf : f_X11_period p1 D = some (.inl r)) : am_C E mX11_period 4 1 6 [.ref 16, .int p1] am_G0 D (.inr r.1) am_G0 r.2 := by
  refine am_C_of (by decide +kernel) (Nat.le_of_ble_eq_true rfl) ?_
  change am_S E mX11_period 4 1 6 (.inr r.1) am_G0 r.2 0 0 0 [(0, .ref 16), (1, .int p1)] [] am_G0 D
  unfold f_X11_period at hf
  refine am_aload_n (am_dec tmX11_period 0 rfl) rfl rfl ?_
  refine am_getR (j := 11) hE (am_dec tmX11_period 1 rfl) sh_16 cf11 (by decide) rfl lf_X11_72 rf_16_11 ?_
  refine am_aload_n (am_dec tmX11_period 2 rfl) rfl rfl ?_
  refine am_iload_n (am_dec tmX11_period 3 rfl) rfl rfl ?_
  rcases am_btDT hf with ⟨g1, eD⟩ | ⟨x2, g1, hf⟩
  · rw [eD]
    exact am_callV_out (As := [.int p1]) (st := [.ref 112]) hE (am_dec tmX11_period 4 rfl) ok_X11_soundOf rfl lm_X11_130 in_X11_soundOf se_X11_soundOf sh_16 cf11 (t_X11_soundOf hE g1) rfl (by decide) (Nat.le_of_ble_eq_true rfl) (Nat.le_refl _) (Nat.le_refl _) rfl rfl
  · have h_x2 := k_X11_soundOf g1
    refine am_callV1 (As := [.int p1]) (st := [.ref 112]) hE (am_dec tmX11_period 4 rfl) ok_X11_soundOf rfl lm_X11_130 in_X11_soundOf se_X11_soundOf sh_16 cf11 (c_X11_soundOf hE g1) rfl (by decide) (Nat.le_of_ble_eq_true rfl) (Nat.zero_le _) (Nat.zero_le _) rfl ?_
    obtain ⟨x4, g3, hf⟩ := am_bd hf
    refine am_callV0 (As := [.ref x2]) (st := []) hE (am_dec tmX11_period 5 rfl) ok_X2_find rfl lm_X11_312 in_X2_find se_X2_find sh_112 cf2 (c_X2_find hE h_x2 g3) rfl (by decide) (Nat.le_of_ble_eq_true rfl) (Nat.zero_le _) (Nat.zero_le _) rfl ?_
    refine am_aload_n (am_dec tmX11_period 6 rfl) rfl rfl ?_
    refine am_getR (j := 11) hE (am_dec tmX11_period 7 rfl) sh_16 cf11 (by decide) rfl lf_X11_72 rf_16_11 ?_
    obtain ⟨x6, g5, hf⟩ := am_bd hf
    refine am_callV1 (As := []) (st := []) hE (am_dec tmX11_period 8 rfl) ok_X2_hundredths rfl lm_X11_315 in_X2_hundredths se_X2_hundredths sh_112 cf2 (c_X2_hundredths hE g5) rfl (by decide) (Nat.le_of_ble_eq_true rfl) (Nat.zero_le _) (Nat.zero_le _) rfl ?_
    cases hf
def f_X11_isHum (p0 : Int32) : Option (Int32) :=
    (f_X11_within p0 (400 : Int32) (6000 : Int32)).bind fun x2 =>
    some x2
set_option maxRecDepth 100000 in
set_option maxHeartbeats 4000000 in
theorem c_X11_isHum {E : am_E} (hE : am_EH E) {p0 : Int32} {D : am_D} {r : Int32}  (hf : f_X11_isHum p0 = some r) : am_C E mX11_isHum 2 0 0 [.int p0] am_G0 D (.inl (some (.int r))) am_G0 D := by
  refine am_C_of (by decide +kernel) (Nat.le_of_ble_eq_true rfl) ?_
  change am_S E mX11_isHum 2 0 0 (.inl (some (.int r))) am_G0 D 0 0 0 [(0, .int p0)] [] am_G0 D
  unfold f_X11_isHum at hf
  refine am_iload_n (am_dec tmX11_isHum 0 rfl) rfl rfl ?_
  refine am_sipush (v := (400 : Int32)) (am_dec tmX11_isHum 1 rfl) (by decide) ?_
  refine am_sipush (v := (6000 : Int32)) (am_dec tmX11_isHum 2 rfl) (by decide) ?_
  obtain ⟨x2, g1, hf⟩ := am_bd hf
  refine am_callS1 (As := [.int p0, .int (400 : Int32), .int (6000 : Int32)]) (st := []) (am_dec tmX11_isHum 3 rfl) ok_X11_within rfl lm_X11_143 st_X11_within (c_X11_within hE g1) rfl (by decide) (Nat.le_of_ble_eq_true rfl) (Nat.zero_le _) (Nat.zero_le _) rfl ?_
  have hf := Option.some.inj hf
  subst hf
  exact am_zret (am_dec tmX11_isHum 4 rfl) rfl (z_X11_within g1) (Nat.zero_le _) (Nat.zero_le _)
theorem z_X11_isHum {p0 : Int32} {r : Int32} (hf : f_X11_isHum p0 = some r) : narrow .boolean (.int r) = .int r := by
  unfold f_X11_isHum at hf
  obtain ⟨x2, g1, hf⟩ := am_bd hf
  have hf := Option.some.inj hf
  subst hf
  exact z_X11_within g1
def f_X11_hum (p1 : Int32) (D : am_D) : Option ((String × am_D) ⊕ (Int32 × am_D)) :=
    (f_X11_isHum p1).bind fun x2 =>
    am_btD (f_X11_need x2) D fun x4 =>
    if (D.1 17 10) < (6 : Int32) then
    (am_pI D 21 6 (D.1 17 10) p1).bind fun D6 =>
    (some (am_wI D6 17 10 ((D6.1 17 10) + (1 : Int32)))).bind fun D8 =>
    some (.inr ((D8.1 17 10), D8))
    else
    some (.inr ((-1 : Int32), D))
set_option maxRecDepth 100000 in
set_option maxHeartbeats 4000000 in
theorem c_X11_hum {E : am_E} (hE : am_EH E) {p1 : Int32} {D : am_D} {r : (Int32 × am_D)}  (hf : f_X11_hum p1 D = some (.inr r)) : am_C E mX11_hum 3 0 0 [.ref 16, .int p1] am_G0 D (.inl (some (.int r.1))) am_G0 r.2 := by
  refine am_C_of (by decide +kernel) (Nat.le_of_ble_eq_true rfl) ?_
  change am_S E mX11_hum 3 0 0 (.inl (some (.int r.1))) am_G0 r.2 0 0 0 [(0, .ref 16), (1, .int p1)] [] am_G0 D
  unfold f_X11_hum at hf
  refine am_iload_n (am_dec tmX11_hum 0 rfl) rfl rfl ?_
  obtain ⟨x2, g1, hf⟩ := am_bd hf
  refine am_callS1 (As := [.int p1]) (st := []) (am_dec tmX11_hum 1 rfl) ok_X11_isHum rfl lm_X11_318 st_X11_isHum (c_X11_isHum hE g1) rfl (by decide) (Nat.le_of_ble_eq_true rfl) (Nat.zero_le _) (Nat.zero_le _) rfl ?_
  obtain ⟨x4, g3, hf⟩ := am_btDR hf
  refine am_callS0 (As := [.int x2]) (st := []) (am_dec tmX11_hum 2 rfl) ok_X11_need rfl lm_X11_94 st_X11_need (c_X11_need hE g3) rfl (by decide) (Nat.le_of_ble_eq_true rfl) (Nat.zero_le _) (Nat.zero_le _) rfl ?_
  refine am_aload_n (am_dec tmX11_hum 3 rfl) rfl rfl ?_
  refine am_getR (j := 0) hE (am_dec tmX11_hum 4 rfl) sh_16 cf11 (by decide) rfl lf_X11_10 rf_16_0 ?_
  refine am_getI (j := 10) hE (am_dec tmX11_hum 5 rfl) sh_17 cf1 (by decide) rfl lf_X11_321 ?_
  refine am_bipush (v := (6 : Int32)) (am_dec tmX11_hum 6 rfl) (by decide) ?_
  refine am_icmp_lt (tgt := 21) (am_dec tmX11_hum 7 rfl) (by decide) (fun c5 => ?_) (fun c5 => ?_)
  · rw [if_pos c5] at hf
    refine am_aload_n (am_dec tmX11_hum 10 rfl) rfl rfl ?_
    refine am_getR (j := 0) hE (am_dec tmX11_hum 11 rfl) sh_16 cf11 (by decide) rfl lf_X11_10 rf_16_0 ?_
    refine am_getR (j := 3) hE (am_dec tmX11_hum 12 rfl) sh_17 cf1 (by decide) rfl lf_X11_324 rf_17_3 ?_
    refine am_aload_n (am_dec tmX11_hum 13 rfl) rfl rfl ?_
    refine am_getR (j := 0) hE (am_dec tmX11_hum 14 rfl) sh_16 cf11 (by decide) rfl lf_X11_10 rf_16_0 ?_
    refine am_getI (j := 10) hE (am_dec tmX11_hum 15 rfl) sh_17 cf1 (by decide) rfl lf_X11_321 ?_
    refine am_iload_n (am_dec tmX11_hum 16 rfl) rfl rfl ?_
    obtain ⟨D6, g7, hf⟩ := am_bd hf
    refine am_iast2 hE (am_dec tmX11_hum 17 rfl) sh_21 g7 ?_
    refine am_aload_n (am_dec tmX11_hum 18 rfl) rfl rfl ?_
    refine am_getR (j := 0) hE (am_dec tmX11_hum 19 rfl) sh_16 cf11 (by decide) rfl lf_X11_10 rf_16_0 ?_
    refine am_dup (am_dec tmX11_hum 20 rfl) rfl ?_
    refine am_getI (j := 10) hE (am_dec tmX11_hum 21 rfl) sh_17 cf1 (by decide) rfl lf_X11_321 ?_
    refine am_iconst (v := (1 : Int32)) (am_dec tmX11_hum 22 rfl) (by decide) ?_
    refine am_iadd (am_dec tmX11_hum 23 rfl) ?_
    obtain ⟨D8, g9, hf⟩ := am_bd hf
    refine am_putI2 (j := 10) hE (am_dec tmX11_hum 24 rfl) sh_17 cf1 (by decide) rfl lf_X11_321 rfl rfl rfl g9 ?_
    refine am_aload_n (am_dec tmX11_hum 25 rfl) rfl rfl ?_
    refine am_getR (j := 0) hE (am_dec tmX11_hum 26 rfl) sh_16 cf11 (by decide) rfl lf_X11_10 rf_16_0 ?_
    refine am_getI (j := 10) hE (am_dec tmX11_hum 27 rfl) sh_17 cf1 (by decide) rfl lf_X11_321 ?_
    have hf := Sum.inr.inj (Option.some.inj hf)
    subst hf
    exact am_iret (am_dec tmX11_hum 28 rfl) rfl (Nat.zero_le _) (Nat.zero_le _)
  · rw [if_neg c5] at hf
    refine am_iconst (v := (-1 : Int32)) (am_dec tmX11_hum 8 rfl) (by decide) ?_
    have hf := Sum.inr.inj (Option.some.inj hf)
    subst hf
    exact am_iret (am_dec tmX11_hum 9 rfl) rfl (Nat.zero_le _) (Nat.zero_le _)
set_option maxRecDepth 100000 in
set_option maxHeartbeats 4000000 in
theorem t_X11_hum {E : am_E} (hE : am_EH E) {p1 : Int32} {D : am_D} {r : String × am_D}  (hf : f_X11_hum p1 D = some (.inl r)) : am_C E mX11_hum 3 1 6 [.ref 16, .int p1] am_G0 D (.inr r.1) am_G0 r.2 := by
  refine am_C_of (by decide +kernel) (Nat.le_of_ble_eq_true rfl) ?_
  change am_S E mX11_hum 3 1 6 (.inr r.1) am_G0 r.2 0 0 0 [(0, .ref 16), (1, .int p1)] [] am_G0 D
  unfold f_X11_hum at hf
  refine am_iload_n (am_dec tmX11_hum 0 rfl) rfl rfl ?_
  obtain ⟨x2, g1, hf⟩ := am_bd hf
  refine am_callS1 (As := [.int p1]) (st := []) (am_dec tmX11_hum 1 rfl) ok_X11_isHum rfl lm_X11_318 st_X11_isHum (c_X11_isHum hE g1) rfl (by decide) (Nat.le_of_ble_eq_true rfl) (Nat.zero_le _) (Nat.zero_le _) rfl ?_
  rcases am_btDT hf with ⟨g3, eD⟩ | ⟨x4, g3, hf⟩
  · rw [eD]
    exact am_callS_out (As := [.int x2]) (st := []) (am_dec tmX11_hum 2 rfl) ok_X11_need rfl lm_X11_94 st_X11_need (t_X11_need hE g3) rfl (by decide) (Nat.le_of_ble_eq_true rfl) (Nat.le_refl _) (Nat.le_refl _) rfl rfl
  · refine am_callS0 (As := [.int x2]) (st := []) (am_dec tmX11_hum 2 rfl) ok_X11_need rfl lm_X11_94 st_X11_need (c_X11_need hE g3) rfl (by decide) (Nat.le_of_ble_eq_true rfl) (Nat.zero_le _) (Nat.zero_le _) rfl ?_
    refine am_aload_n (am_dec tmX11_hum 3 rfl) rfl rfl ?_
    refine am_getR (j := 0) hE (am_dec tmX11_hum 4 rfl) sh_16 cf11 (by decide) rfl lf_X11_10 rf_16_0 ?_
    refine am_getI (j := 10) hE (am_dec tmX11_hum 5 rfl) sh_17 cf1 (by decide) rfl lf_X11_321 ?_
    refine am_bipush (v := (6 : Int32)) (am_dec tmX11_hum 6 rfl) (by decide) ?_
    refine am_icmp_lt (tgt := 21) (am_dec tmX11_hum 7 rfl) (by decide) (fun c5 => ?_) (fun c5 => ?_)
    · rw [if_pos c5] at hf
      refine am_aload_n (am_dec tmX11_hum 10 rfl) rfl rfl ?_
      refine am_getR (j := 0) hE (am_dec tmX11_hum 11 rfl) sh_16 cf11 (by decide) rfl lf_X11_10 rf_16_0 ?_
      refine am_getR (j := 3) hE (am_dec tmX11_hum 12 rfl) sh_17 cf1 (by decide) rfl lf_X11_324 rf_17_3 ?_
      refine am_aload_n (am_dec tmX11_hum 13 rfl) rfl rfl ?_
      refine am_getR (j := 0) hE (am_dec tmX11_hum 14 rfl) sh_16 cf11 (by decide) rfl lf_X11_10 rf_16_0 ?_
      refine am_getI (j := 10) hE (am_dec tmX11_hum 15 rfl) sh_17 cf1 (by decide) rfl lf_X11_321 ?_
      refine am_iload_n (am_dec tmX11_hum 16 rfl) rfl rfl ?_
      obtain ⟨D6, g7, hf⟩ := am_bd hf
      refine am_iast2 hE (am_dec tmX11_hum 17 rfl) sh_21 g7 ?_
      refine am_aload_n (am_dec tmX11_hum 18 rfl) rfl rfl ?_
      refine am_getR (j := 0) hE (am_dec tmX11_hum 19 rfl) sh_16 cf11 (by decide) rfl lf_X11_10 rf_16_0 ?_
      refine am_dup (am_dec tmX11_hum 20 rfl) rfl ?_
      refine am_getI (j := 10) hE (am_dec tmX11_hum 21 rfl) sh_17 cf1 (by decide) rfl lf_X11_321 ?_
      refine am_iconst (v := (1 : Int32)) (am_dec tmX11_hum 22 rfl) (by decide) ?_
      refine am_iadd (am_dec tmX11_hum 23 rfl) ?_
      obtain ⟨D8, g9, hf⟩ := am_bd hf
      refine am_putI2 (j := 10) hE (am_dec tmX11_hum 24 rfl) sh_17 cf1 (by decide) rfl lf_X11_321 rfl rfl rfl g9 ?_
      refine am_aload_n (am_dec tmX11_hum 25 rfl) rfl rfl ?_
      refine am_getR (j := 0) hE (am_dec tmX11_hum 26 rfl) sh_16 cf11 (by decide) rfl lf_X11_10 rf_16_0 ?_
      refine am_getI (j := 10) hE (am_dec tmX11_hum 27 rfl) sh_17 cf1 (by decide) rfl lf_X11_321 ?_
      cases hf
    · rw [if_neg c5] at hf
      refine am_iconst (v := (-1 : Int32)) (am_dec tmX11_hum 8 rfl) (by decide) ?_
      cases hf
def f_X11_meant (p1 : Int32) (p2 : Int32) (D : am_D) : Option ((String × am_D) ⊕ (Int32 × am_D)) :=
    am_btD (f_X11_soundOf p1 D) D fun x2 =>
    (f_X11_within p2 (0 : Int32) (1 : Int32)).bind fun x4 =>
    am_btD (f_X11_need x4) D fun x6 =>
    (f_X2_find x2 D).bind fun x8 =>
    (f_X2_hundredths x8).bind fun x10 =>
    if x10 = (-1 : Int32) then
    some (.inr ((-1 : Int32), x8))
    else
    (f_X1_nearestHum x10 (-1 : Int32) x8).bind fun x13 =>
    if p2 = 0 then
    some (.inr (x13, x8))
    else
    if x13 = (-1 : Int32) then
    some (.inr (x13, x8))
    else
    (f_X1_nearestHum x10 x13 x8).bind fun x17 =>
    if x17 = (-1 : Int32) then
    some (.inr ((-1 : Int32), x8))
    else
    (f_X1_humFar x17 x10 x8).bind fun x20 =>
    (f_X1_humFar x13 x10 x8).bind fun x22 =>
    some (.inr ((x20 - x22), x8))
set_option maxRecDepth 100000 in
set_option maxHeartbeats 4000000 in
theorem c_X11_meant {E : am_E} (hE : am_EH E) {p1 : Int32} {p2 : Int32} {D : am_D} {r : (Int32 × am_D)}  (hf : f_X11_meant p1 p2 D = some (.inr r)) : am_C E mX11_meant 4 0 0 [.ref 16, .int p1, .int p2] am_G0 D (.inl (some (.int r.1))) am_G0 r.2 := by
  refine am_C_of (by decide +kernel) (Nat.le_of_ble_eq_true rfl) ?_
  change am_S E mX11_meant 4 0 0 (.inl (some (.int r.1))) am_G0 r.2 0 0 0 [(0, .ref 16), (1, .int p1), (2, .int p2)] [] am_G0 D
  unfold f_X11_meant at hf
  refine am_aload_n (am_dec tmX11_meant 0 rfl) rfl rfl ?_
  refine am_iload_n (am_dec tmX11_meant 1 rfl) rfl rfl ?_
  obtain ⟨x2, g1, hf⟩ := am_btDR hf
  have h_x2 := k_X11_soundOf g1
  refine am_callV1 (As := [.int p1]) (st := []) hE (am_dec tmX11_meant 2 rfl) ok_X11_soundOf rfl lm_X11_130 in_X11_soundOf se_X11_soundOf sh_16 cf11 (c_X11_soundOf hE g1) rfl (by decide) (Nat.le_of_ble_eq_true rfl) (Nat.zero_le _) (Nat.zero_le _) rfl ?_
  refine am_astore_n (lv' := [(0, .ref 16), (1, .int p1), (2, .int p2), (3, .ref x2)]) (am_dec tmX11_meant 3 rfl) rfl (by decide) rfl ?_
  refine am_iload_n (am_dec tmX11_meant 4 rfl) rfl rfl ?_
  refine am_iconst (v := (0 : Int32)) (am_dec tmX11_meant 5 rfl) (by decide) ?_
  refine am_iconst (v := (1 : Int32)) (am_dec tmX11_meant 6 rfl) (by decide) ?_
  obtain ⟨x4, g3, hf⟩ := am_bd hf
  refine am_callS1 (As := [.int p2, .int (0 : Int32), .int (1 : Int32)]) (st := []) (am_dec tmX11_meant 7 rfl) ok_X11_within rfl lm_X11_143 st_X11_within (c_X11_within hE g3) rfl (by decide) (Nat.le_of_ble_eq_true rfl) (Nat.zero_le _) (Nat.zero_le _) rfl ?_
  obtain ⟨x6, g5, hf⟩ := am_btDR hf
  refine am_callS0 (As := [.int x4]) (st := []) (am_dec tmX11_meant 8 rfl) ok_X11_need rfl lm_X11_94 st_X11_need (c_X11_need hE g5) rfl (by decide) (Nat.le_of_ble_eq_true rfl) (Nat.zero_le _) (Nat.zero_le _) rfl ?_
  refine am_aload_n (am_dec tmX11_meant 9 rfl) rfl rfl ?_
  refine am_getR (j := 11) hE (am_dec tmX11_meant 10 rfl) sh_16 cf11 (by decide) rfl lf_X11_72 rf_16_11 ?_
  refine am_aload_n (am_dec tmX11_meant 11 rfl) rfl rfl ?_
  obtain ⟨x8, g7, hf⟩ := am_bd hf
  refine am_callV0 (As := [.ref x2]) (st := []) hE (am_dec tmX11_meant 12 rfl) ok_X2_find rfl lm_X11_312 in_X2_find se_X2_find sh_112 cf2 (c_X2_find hE h_x2 g7) rfl (by decide) (Nat.le_of_ble_eq_true rfl) (Nat.zero_le _) (Nat.zero_le _) rfl ?_
  refine am_aload_n (am_dec tmX11_meant 13 rfl) rfl rfl ?_
  refine am_getR (j := 11) hE (am_dec tmX11_meant 14 rfl) sh_16 cf11 (by decide) rfl lf_X11_72 rf_16_11 ?_
  obtain ⟨x10, g9, hf⟩ := am_bd hf
  refine am_callV1 (As := []) (st := []) hE (am_dec tmX11_meant 15 rfl) ok_X2_hundredths rfl lm_X11_315 in_X2_hundredths se_X2_hundredths sh_112 cf2 (c_X2_hundredths hE g9) rfl (by decide) (Nat.le_of_ble_eq_true rfl) (Nat.zero_le _) (Nat.zero_le _) rfl ?_
  refine am_istore (lv' := [(0, .ref 16), (1, .int p1), (2, .int p2), (3, .ref x2), (4, .int x10)]) (am_dec tmX11_meant 16 rfl) (by decide) rfl ?_
  refine am_iload (am_dec tmX11_meant 17 rfl) rfl ?_
  refine am_iconst (v := (-1 : Int32)) (am_dec tmX11_meant 18 rfl) (by decide) ?_
  refine am_icmp_ne (tgt := 40) (am_dec tmX11_meant 19 rfl) (by decide) (fun c11 => ?_) (fun c11 => ?_)
  · rw [if_neg c11] at hf
    refine am_aload_n (am_dec tmX11_meant 22 rfl) rfl rfl ?_
    refine am_getR (j := 0) hE (am_dec tmX11_meant 23 rfl) sh_16 cf11 (by decide) rfl lf_X11_10 rf_16_0 ?_
    refine am_iload (am_dec tmX11_meant 24 rfl) rfl ?_
    refine am_iconst (v := (-1 : Int32)) (am_dec tmX11_meant 25 rfl) (by decide) ?_
    obtain ⟨x13, g12, hf⟩ := am_bd hf
    refine am_callV1 (As := [.int x10, .int (-1 : Int32)]) (st := []) hE (am_dec tmX11_meant 26 rfl) ok_X1_nearestHum rfl lm_X11_327 in_X1_nearestHum se_X1_nearestHum sh_17 cf1 (c_X1_nearestHum hE g12) rfl (by decide) (Nat.le_of_ble_eq_true rfl) (Nat.zero_le _) (Nat.zero_le _) rfl ?_
    refine am_istore (lv' := [(0, .ref 16), (1, .int p1), (2, .int p2), (3, .ref x2), (4, .int x10), (5, .int x13)]) (am_dec tmX11_meant 27 rfl) (by decide) rfl ?_
    refine am_iload_n (am_dec tmX11_meant 28 rfl) rfl rfl ?_
    refine am_if_eq (tgt := 62) (am_dec tmX11_meant 29 rfl) (by decide) (fun c14 => ?_) (fun c14 => ?_)
    · rw [if_pos c14] at hf
      refine am_iload (am_dec tmX11_meant 33 rfl) rfl ?_
      have hf := Sum.inr.inj (Option.some.inj hf)
      subst hf
      exact am_iret (am_dec tmX11_meant 34 rfl) rfl (Nat.zero_le _) (Nat.zero_le _)
    · rw [if_neg c14] at hf
      refine am_iload (am_dec tmX11_meant 30 rfl) rfl ?_
      refine am_iconst (v := (-1 : Int32)) (am_dec tmX11_meant 31 rfl) (by decide) ?_
      refine am_icmp_ne (tgt := 65) (am_dec tmX11_meant 32 rfl) (by decide) (fun c15 => ?_) (fun c15 => ?_)
      · rw [if_neg c15] at hf
        refine am_aload_n (am_dec tmX11_meant 35 rfl) rfl rfl ?_
        refine am_getR (j := 0) hE (am_dec tmX11_meant 36 rfl) sh_16 cf11 (by decide) rfl lf_X11_10 rf_16_0 ?_
        refine am_iload (am_dec tmX11_meant 37 rfl) rfl ?_
        refine am_iload (am_dec tmX11_meant 38 rfl) rfl ?_
        obtain ⟨x17, g16, hf⟩ := am_bd hf
        refine am_callV1 (As := [.int x10, .int x13]) (st := []) hE (am_dec tmX11_meant 39 rfl) ok_X1_nearestHum rfl lm_X11_327 in_X1_nearestHum se_X1_nearestHum sh_17 cf1 (c_X1_nearestHum hE g16) rfl (by decide) (Nat.le_of_ble_eq_true rfl) (Nat.zero_le _) (Nat.zero_le _) rfl ?_
        refine am_istore (lv' := [(0, .ref 16), (1, .int p1), (2, .int p2), (3, .ref x2), (4, .int x10), (5, .int x13), (6, .int x17)]) (am_dec tmX11_meant 40 rfl) (by decide) rfl ?_
        refine am_iload (am_dec tmX11_meant 41 rfl) rfl ?_
        refine am_iconst (v := (-1 : Int32)) (am_dec tmX11_meant 42 rfl) (by decide) ?_
        refine am_icmp_ne (tgt := 88) (am_dec tmX11_meant 43 rfl) (by decide) (fun c18 => ?_) (fun c18 => ?_)
        · rw [if_neg c18] at hf
          refine am_aload_n (am_dec tmX11_meant 46 rfl) rfl rfl ?_
          refine am_getR (j := 0) hE (am_dec tmX11_meant 47 rfl) sh_16 cf11 (by decide) rfl lf_X11_10 rf_16_0 ?_
          refine am_iload (am_dec tmX11_meant 48 rfl) rfl ?_
          refine am_iload (am_dec tmX11_meant 49 rfl) rfl ?_
          obtain ⟨x20, g19, hf⟩ := am_bd hf
          refine am_callV1 (As := [.int x17, .int x10]) (st := []) hE (am_dec tmX11_meant 50 rfl) ok_X1_humFar rfl lm_X11_330 in_X1_humFar se_X1_humFar sh_17 cf1 (c_X1_humFar hE g19) rfl (by decide) (Nat.le_of_ble_eq_true rfl) (Nat.zero_le _) (Nat.zero_le _) rfl ?_
          refine am_aload_n (am_dec tmX11_meant 51 rfl) rfl rfl ?_
          refine am_getR (j := 0) hE (am_dec tmX11_meant 52 rfl) sh_16 cf11 (by decide) rfl lf_X11_10 rf_16_0 ?_
          refine am_iload (am_dec tmX11_meant 53 rfl) rfl ?_
          refine am_iload (am_dec tmX11_meant 54 rfl) rfl ?_
          obtain ⟨x22, g21, hf⟩ := am_bd hf
          refine am_callV1 (As := [.int x13, .int x10]) (st := [.int x20]) hE (am_dec tmX11_meant 55 rfl) ok_X1_humFar rfl lm_X11_330 in_X1_humFar se_X1_humFar sh_17 cf1 (c_X1_humFar hE g21) rfl (by decide) (Nat.le_of_ble_eq_true rfl) (Nat.zero_le _) (Nat.zero_le _) rfl ?_
          refine am_isub (am_dec tmX11_meant 56 rfl) ?_
          have hf := Sum.inr.inj (Option.some.inj hf)
          subst hf
          exact am_iret (am_dec tmX11_meant 57 rfl) rfl (Nat.zero_le _) (Nat.zero_le _)
        · rw [if_pos c18] at hf
          refine am_iconst (v := (-1 : Int32)) (am_dec tmX11_meant 44 rfl) (by decide) ?_
          refine am_goto (tgt := 111) (am_dec tmX11_meant 45 rfl) (by decide) ?_
          have hf := Sum.inr.inj (Option.some.inj hf)
          subst hf
          exact am_iret (am_dec tmX11_meant 57 rfl) rfl (Nat.zero_le _) (Nat.zero_le _)
      · rw [if_pos c15] at hf
        refine am_iload (am_dec tmX11_meant 33 rfl) rfl ?_
        have hf := Sum.inr.inj (Option.some.inj hf)
        subst hf
        exact am_iret (am_dec tmX11_meant 34 rfl) rfl (Nat.zero_le _) (Nat.zero_le _)
  · rw [if_pos c11] at hf
    refine am_iconst (v := (-1 : Int32)) (am_dec tmX11_meant 20 rfl) (by decide) ?_
    have hf := Sum.inr.inj (Option.some.inj hf)
    subst hf
    exact am_iret (am_dec tmX11_meant 21 rfl) rfl (Nat.zero_le _) (Nat.zero_le _)
set_option maxRecDepth 100000 in
set_option maxHeartbeats 4000000 in
theorem t_X11_meant {E : am_E} (hE : am_EH E) {p1 : Int32} {p2 : Int32} {D : am_D} {r : String × am_D}  (hf : f_X11_meant p1 p2 D = some (.inl r)) : am_C E mX11_meant 4 1 6 [.ref 16, .int p1, .int p2] am_G0 D (.inr r.1) am_G0 r.2 := by
  refine am_C_of (by decide +kernel) (Nat.le_of_ble_eq_true rfl) ?_
  change am_S E mX11_meant 4 1 6 (.inr r.1) am_G0 r.2 0 0 0 [(0, .ref 16), (1, .int p1), (2, .int p2)] [] am_G0 D
  unfold f_X11_meant at hf
  refine am_aload_n (am_dec tmX11_meant 0 rfl) rfl rfl ?_
  refine am_iload_n (am_dec tmX11_meant 1 rfl) rfl rfl ?_
  rcases am_btDT hf with ⟨g1, eD⟩ | ⟨x2, g1, hf⟩
  · rw [eD]
    exact am_callV_out (As := [.int p1]) (st := []) hE (am_dec tmX11_meant 2 rfl) ok_X11_soundOf rfl lm_X11_130 in_X11_soundOf se_X11_soundOf sh_16 cf11 (t_X11_soundOf hE g1) rfl (by decide) (Nat.le_of_ble_eq_true rfl) (Nat.le_refl _) (Nat.le_refl _) rfl rfl
  · have h_x2 := k_X11_soundOf g1
    refine am_callV1 (As := [.int p1]) (st := []) hE (am_dec tmX11_meant 2 rfl) ok_X11_soundOf rfl lm_X11_130 in_X11_soundOf se_X11_soundOf sh_16 cf11 (c_X11_soundOf hE g1) rfl (by decide) (Nat.le_of_ble_eq_true rfl) (Nat.zero_le _) (Nat.zero_le _) rfl ?_
    refine am_astore_n (lv' := [(0, .ref 16), (1, .int p1), (2, .int p2), (3, .ref x2)]) (am_dec tmX11_meant 3 rfl) rfl (by decide) rfl ?_
    refine am_iload_n (am_dec tmX11_meant 4 rfl) rfl rfl ?_
    refine am_iconst (v := (0 : Int32)) (am_dec tmX11_meant 5 rfl) (by decide) ?_
    refine am_iconst (v := (1 : Int32)) (am_dec tmX11_meant 6 rfl) (by decide) ?_
    obtain ⟨x4, g3, hf⟩ := am_bd hf
    refine am_callS1 (As := [.int p2, .int (0 : Int32), .int (1 : Int32)]) (st := []) (am_dec tmX11_meant 7 rfl) ok_X11_within rfl lm_X11_143 st_X11_within (c_X11_within hE g3) rfl (by decide) (Nat.le_of_ble_eq_true rfl) (Nat.zero_le _) (Nat.zero_le _) rfl ?_
    rcases am_btDT hf with ⟨g5, eD⟩ | ⟨x6, g5, hf⟩
    · rw [eD]
      exact am_callS_out (As := [.int x4]) (st := []) (am_dec tmX11_meant 8 rfl) ok_X11_need rfl lm_X11_94 st_X11_need (t_X11_need hE g5) rfl (by decide) (Nat.le_of_ble_eq_true rfl) (Nat.le_refl _) (Nat.le_refl _) rfl rfl
    · refine am_callS0 (As := [.int x4]) (st := []) (am_dec tmX11_meant 8 rfl) ok_X11_need rfl lm_X11_94 st_X11_need (c_X11_need hE g5) rfl (by decide) (Nat.le_of_ble_eq_true rfl) (Nat.zero_le _) (Nat.zero_le _) rfl ?_
      refine am_aload_n (am_dec tmX11_meant 9 rfl) rfl rfl ?_
      refine am_getR (j := 11) hE (am_dec tmX11_meant 10 rfl) sh_16 cf11 (by decide) rfl lf_X11_72 rf_16_11 ?_
      refine am_aload_n (am_dec tmX11_meant 11 rfl) rfl rfl ?_
      obtain ⟨x8, g7, hf⟩ := am_bd hf
      refine am_callV0 (As := [.ref x2]) (st := []) hE (am_dec tmX11_meant 12 rfl) ok_X2_find rfl lm_X11_312 in_X2_find se_X2_find sh_112 cf2 (c_X2_find hE h_x2 g7) rfl (by decide) (Nat.le_of_ble_eq_true rfl) (Nat.zero_le _) (Nat.zero_le _) rfl ?_
      refine am_aload_n (am_dec tmX11_meant 13 rfl) rfl rfl ?_
      refine am_getR (j := 11) hE (am_dec tmX11_meant 14 rfl) sh_16 cf11 (by decide) rfl lf_X11_72 rf_16_11 ?_
      obtain ⟨x10, g9, hf⟩ := am_bd hf
      refine am_callV1 (As := []) (st := []) hE (am_dec tmX11_meant 15 rfl) ok_X2_hundredths rfl lm_X11_315 in_X2_hundredths se_X2_hundredths sh_112 cf2 (c_X2_hundredths hE g9) rfl (by decide) (Nat.le_of_ble_eq_true rfl) (Nat.zero_le _) (Nat.zero_le _) rfl ?_
      refine am_istore (lv' := [(0, .ref 16), (1, .int p1), (2, .int p2), (3, .ref x2), (4, .int x10)]) (am_dec tmX11_meant 16 rfl) (by decide) rfl ?_
      refine am_iload (am_dec tmX11_meant 17 rfl) rfl ?_
      refine am_iconst (v := (-1 : Int32)) (am_dec tmX11_meant 18 rfl) (by decide) ?_
      refine am_icmp_ne (tgt := 40) (am_dec tmX11_meant 19 rfl) (by decide) (fun c11 => ?_) (fun c11 => ?_)
      · rw [if_neg c11] at hf
        refine am_aload_n (am_dec tmX11_meant 22 rfl) rfl rfl ?_
        refine am_getR (j := 0) hE (am_dec tmX11_meant 23 rfl) sh_16 cf11 (by decide) rfl lf_X11_10 rf_16_0 ?_
        refine am_iload (am_dec tmX11_meant 24 rfl) rfl ?_
        refine am_iconst (v := (-1 : Int32)) (am_dec tmX11_meant 25 rfl) (by decide) ?_
        obtain ⟨x13, g12, hf⟩ := am_bd hf
        refine am_callV1 (As := [.int x10, .int (-1 : Int32)]) (st := []) hE (am_dec tmX11_meant 26 rfl) ok_X1_nearestHum rfl lm_X11_327 in_X1_nearestHum se_X1_nearestHum sh_17 cf1 (c_X1_nearestHum hE g12) rfl (by decide) (Nat.le_of_ble_eq_true rfl) (Nat.zero_le _) (Nat.zero_le _) rfl ?_
        refine am_istore (lv' := [(0, .ref 16), (1, .int p1), (2, .int p2), (3, .ref x2), (4, .int x10), (5, .int x13)]) (am_dec tmX11_meant 27 rfl) (by decide) rfl ?_
        refine am_iload_n (am_dec tmX11_meant 28 rfl) rfl rfl ?_
        refine am_if_eq (tgt := 62) (am_dec tmX11_meant 29 rfl) (by decide) (fun c14 => ?_) (fun c14 => ?_)
        · rw [if_pos c14] at hf
          refine am_iload (am_dec tmX11_meant 33 rfl) rfl ?_
          cases hf
        · rw [if_neg c14] at hf
          refine am_iload (am_dec tmX11_meant 30 rfl) rfl ?_
          refine am_iconst (v := (-1 : Int32)) (am_dec tmX11_meant 31 rfl) (by decide) ?_
          refine am_icmp_ne (tgt := 65) (am_dec tmX11_meant 32 rfl) (by decide) (fun c15 => ?_) (fun c15 => ?_)
          · rw [if_neg c15] at hf
            refine am_aload_n (am_dec tmX11_meant 35 rfl) rfl rfl ?_
            refine am_getR (j := 0) hE (am_dec tmX11_meant 36 rfl) sh_16 cf11 (by decide) rfl lf_X11_10 rf_16_0 ?_
            refine am_iload (am_dec tmX11_meant 37 rfl) rfl ?_
            refine am_iload (am_dec tmX11_meant 38 rfl) rfl ?_
            obtain ⟨x17, g16, hf⟩ := am_bd hf
            refine am_callV1 (As := [.int x10, .int x13]) (st := []) hE (am_dec tmX11_meant 39 rfl) ok_X1_nearestHum rfl lm_X11_327 in_X1_nearestHum se_X1_nearestHum sh_17 cf1 (c_X1_nearestHum hE g16) rfl (by decide) (Nat.le_of_ble_eq_true rfl) (Nat.zero_le _) (Nat.zero_le _) rfl ?_
            refine am_istore (lv' := [(0, .ref 16), (1, .int p1), (2, .int p2), (3, .ref x2), (4, .int x10), (5, .int x13), (6, .int x17)]) (am_dec tmX11_meant 40 rfl) (by decide) rfl ?_
            refine am_iload (am_dec tmX11_meant 41 rfl) rfl ?_
            refine am_iconst (v := (-1 : Int32)) (am_dec tmX11_meant 42 rfl) (by decide) ?_
            refine am_icmp_ne (tgt := 88) (am_dec tmX11_meant 43 rfl) (by decide) (fun c18 => ?_) (fun c18 => ?_)
            · rw [if_neg c18] at hf
              refine am_aload_n (am_dec tmX11_meant 46 rfl) rfl rfl ?_
              refine am_getR (j := 0) hE (am_dec tmX11_meant 47 rfl) sh_16 cf11 (by decide) rfl lf_X11_10 rf_16_0 ?_
              refine am_iload (am_dec tmX11_meant 48 rfl) rfl ?_
              refine am_iload (am_dec tmX11_meant 49 rfl) rfl ?_
              obtain ⟨x20, g19, hf⟩ := am_bd hf
              refine am_callV1 (As := [.int x17, .int x10]) (st := []) hE (am_dec tmX11_meant 50 rfl) ok_X1_humFar rfl lm_X11_330 in_X1_humFar se_X1_humFar sh_17 cf1 (c_X1_humFar hE g19) rfl (by decide) (Nat.le_of_ble_eq_true rfl) (Nat.zero_le _) (Nat.zero_le _) rfl ?_
              refine am_aload_n (am_dec tmX11_meant 51 rfl) rfl rfl ?_
              refine am_getR (j := 0) hE (am_dec tmX11_meant 52 rfl) sh_16 cf11 (by decide) rfl lf_X11_10 rf_16_0 ?_
              refine am_iload (am_dec tmX11_meant 53 rfl) rfl ?_
              refine am_iload (am_dec tmX11_meant 54 rfl) rfl ?_
              obtain ⟨x22, g21, hf⟩ := am_bd hf
              refine am_callV1 (As := [.int x13, .int x10]) (st := [.int x20]) hE (am_dec tmX11_meant 55 rfl) ok_X1_humFar rfl lm_X11_330 in_X1_humFar se_X1_humFar sh_17 cf1 (c_X1_humFar hE g21) rfl (by decide) (Nat.le_of_ble_eq_true rfl) (Nat.zero_le _) (Nat.zero_le _) rfl ?_
              refine am_isub (am_dec tmX11_meant 56 rfl) ?_
              cases hf
            · rw [if_pos c18] at hf
              refine am_iconst (v := (-1 : Int32)) (am_dec tmX11_meant 44 rfl) (by decide) ?_
              refine am_goto (tgt := 111) (am_dec tmX11_meant 45 rfl) (by decide) ?_
              cases hf
          · rw [if_pos c15] at hf
            refine am_iload (am_dec tmX11_meant 33 rfl) rfl ?_
            cases hf
      · rw [if_pos c11] at hf
        refine am_iconst (v := (-1 : Int32)) (am_dec tmX11_meant 20 rfl) (by decide) ?_
        cases hf
def f_X11_undo (p1 : Int32) (p2 : Int32) (D : am_D) : Option ((String × am_D) ⊕ (Int32 × am_D)) :=
    am_btD (f_X11_soundOf p1 D) D fun x2 =>
    (f_X11_isHum p2).bind fun x4 =>
    am_btD (f_X11_need x4) D fun x6 =>
    am_bn (f_X1_freeMap D)
    (fun x8 =>
    (f_X2_find x2 D).bind fun x10 =>
    (f_X2_hundredths x10).bind fun x12 =>
    if x12 = (-1 : Int32) then
    some (.inr ((-2 : Int32), x10))
    else
    (f_X9_clear x8 x10).bind fun x15 =>
    (f_X11_cut ((x15.1 x2 1) * p2) x12).bind fun x17 =>
    (f_X11_bounded x17 (1 : Int32) (1200 : Int32)).bind fun x19 =>
    (f_X9_add x8 (x15.1 x2 1) x19 x15).bind fun x21 =>
    (f_X1_takeMap x21).bind fun x23 =>
    some (.inr (x23.1, x23.2)))
    (some (.inr ((-1 : Int32), D)))
set_option maxRecDepth 100000 in
set_option maxHeartbeats 4000000 in
theorem c_X11_undo {E : am_E} (hE : am_EH E) {p1 : Int32} {p2 : Int32} {D : am_D} {r : (Int32 × am_D)}  (hf : f_X11_undo p1 p2 D = some (.inr r)) : am_C E mX11_undo 4 0 0 [.ref 16, .int p1, .int p2] am_G0 D (.inl (some (.int r.1))) am_G0 r.2 := by
  refine am_C_of (by decide +kernel) (Nat.le_of_ble_eq_true rfl) ?_
  change am_S E mX11_undo 4 0 0 (.inl (some (.int r.1))) am_G0 r.2 0 0 0 [(0, .ref 16), (1, .int p1), (2, .int p2)] [] am_G0 D
  unfold f_X11_undo at hf
  refine am_aload_n (am_dec tmX11_undo 0 rfl) rfl rfl ?_
  refine am_iload_n (am_dec tmX11_undo 1 rfl) rfl rfl ?_
  obtain ⟨x2, g1, hf⟩ := am_btDR hf
  have h_x2 := k_X11_soundOf g1
  refine am_callV1 (As := [.int p1]) (st := []) hE (am_dec tmX11_undo 2 rfl) ok_X11_soundOf rfl lm_X11_130 in_X11_soundOf se_X11_soundOf sh_16 cf11 (c_X11_soundOf hE g1) rfl (by decide) (Nat.le_of_ble_eq_true rfl) (Nat.zero_le _) (Nat.zero_le _) rfl ?_
  refine am_astore_n (lv' := [(0, .ref 16), (1, .int p1), (2, .int p2), (3, .ref x2)]) (am_dec tmX11_undo 3 rfl) rfl (by decide) rfl ?_
  refine am_iload_n (am_dec tmX11_undo 4 rfl) rfl rfl ?_
  obtain ⟨x4, g3, hf⟩ := am_bd hf
  refine am_callS1 (As := [.int p2]) (st := []) (am_dec tmX11_undo 5 rfl) ok_X11_isHum rfl lm_X11_318 st_X11_isHum (c_X11_isHum hE g3) rfl (by decide) (Nat.le_of_ble_eq_true rfl) (Nat.zero_le _) (Nat.zero_le _) rfl ?_
  obtain ⟨x6, g5, hf⟩ := am_btDR hf
  refine am_callS0 (As := [.int x4]) (st := []) (am_dec tmX11_undo 6 rfl) ok_X11_need rfl lm_X11_94 st_X11_need (c_X11_need hE g5) rfl (by decide) (Nat.le_of_ble_eq_true rfl) (Nat.zero_le _) (Nat.zero_le _) rfl ?_
  refine am_aload_n (am_dec tmX11_undo 7 rfl) rfl rfl ?_
  refine am_getR (j := 0) hE (am_dec tmX11_undo 8 rfl) sh_16 cf11 (by decide) rfl lf_X11_10 rf_16_0 ?_
  rcases am_bnd hf with ⟨x8, g7, hf⟩ | ⟨g7, hf⟩
  · have h_x8 := k_X1_freeMap g7
    refine am_callV1 (w := .ref x8) (As := []) (st := []) hE (am_dec tmX11_undo 9 rfl) ok_X1_freeMap rfl lm_X11_116 in_X1_freeMap se_X1_freeMap sh_17 cf1 (c_X1_freeMap hE  g7) rfl (by decide) (Nat.le_of_ble_eq_true rfl) (Nat.zero_le _) (Nat.zero_le _) rfl ?_
    refine am_astore (lv' := [(0, .ref 16), (1, .int p1), (2, .int p2), (3, .ref x2), (4, .ref x8)]) (am_dec tmX11_undo 10 rfl) (by decide) rfl ?_
    refine am_aload (am_dec tmX11_undo 11 rfl) rfl ?_
    refine am_ifnonnull (tgt := 29) (am_dec tmX11_undo 12 rfl) (by decide) ?_
    refine am_aload_n (am_dec tmX11_undo 15 rfl) rfl rfl ?_
    refine am_getR (j := 11) hE (am_dec tmX11_undo 16 rfl) sh_16 cf11 (by decide) rfl lf_X11_72 rf_16_11 ?_
    refine am_aload_n (am_dec tmX11_undo 17 rfl) rfl rfl ?_
    obtain ⟨x10, g9, hf⟩ := am_bd hf
    refine am_callV0 (As := [.ref x2]) (st := []) hE (am_dec tmX11_undo 18 rfl) ok_X2_find rfl lm_X11_312 in_X2_find se_X2_find sh_112 cf2 (c_X2_find hE h_x2 g9) rfl (by decide) (Nat.le_of_ble_eq_true rfl) (Nat.zero_le _) (Nat.zero_le _) rfl ?_
    refine am_aload_n (am_dec tmX11_undo 19 rfl) rfl rfl ?_
    refine am_getR (j := 11) hE (am_dec tmX11_undo 20 rfl) sh_16 cf11 (by decide) rfl lf_X11_72 rf_16_11 ?_
    obtain ⟨x12, g11, hf⟩ := am_bd hf
    refine am_callV1 (As := []) (st := []) hE (am_dec tmX11_undo 21 rfl) ok_X2_hundredths rfl lm_X11_315 in_X2_hundredths se_X2_hundredths sh_112 cf2 (c_X2_hundredths hE g11) rfl (by decide) (Nat.le_of_ble_eq_true rfl) (Nat.zero_le _) (Nat.zero_le _) rfl ?_
    refine am_istore (lv' := [(0, .ref 16), (1, .int p1), (2, .int p2), (3, .ref x2), (4, .ref x8), (5, .int x12)]) (am_dec tmX11_undo 22 rfl) (by decide) rfl ?_
    refine am_iload (am_dec tmX11_undo 23 rfl) rfl ?_
    refine am_iconst (v := (-1 : Int32)) (am_dec tmX11_undo 24 rfl) (by decide) ?_
    refine am_icmp_ne (tgt := 55) (am_dec tmX11_undo 25 rfl) (by decide) (fun c13 => ?_) (fun c13 => ?_)
    · rw [if_neg c13] at hf
      refine am_aload (am_dec tmX11_undo 28 rfl) rfl ?_
      obtain ⟨x15, g14, hf⟩ := am_bd hf
      refine am_callV0 (As := []) (st := []) hE (am_dec tmX11_undo 29 rfl) ok_X9_clear rfl lm_X11_333 in_X9_clear se_X9_clear h_x8 cf9 (c_X9_clear hE h_x8 g14) rfl (by decide) (Nat.le_of_ble_eq_true rfl) (Nat.zero_le _) (Nat.zero_le _) rfl ?_
      refine am_aload (am_dec tmX11_undo 30 rfl) rfl ?_
      refine am_aload_n (am_dec tmX11_undo 31 rfl) rfl rfl ?_
      refine am_getI (j := 1) hE (am_dec tmX11_undo 32 rfl) h_x2 cf7 (by decide) rfl lf_X11_134 ?_
      refine am_aload_n (am_dec tmX11_undo 33 rfl) rfl rfl ?_
      refine am_getI (j := 1) hE (am_dec tmX11_undo 34 rfl) h_x2 cf7 (by decide) rfl lf_X11_134 ?_
      refine am_iload_n (am_dec tmX11_undo 35 rfl) rfl rfl ?_
      refine am_imul (am_dec tmX11_undo 36 rfl) ?_
      refine am_iload (am_dec tmX11_undo 37 rfl) rfl ?_
      obtain ⟨x17, g16, hf⟩ := am_bd hf
      refine am_callS1 (As := [.int ((x15.1 x2 1) * p2), .int x12]) (st := [.int (x15.1 x2 1), .ref x8]) (am_dec tmX11_undo 38 rfl) ok_X11_cut rfl lm_X11_336 st_X11_cut (c_X11_cut hE g16) rfl (by decide) (Nat.le_of_ble_eq_true rfl) (Nat.zero_le _) (Nat.zero_le _) rfl ?_
      refine am_iconst (v := (1 : Int32)) (am_dec tmX11_undo 39 rfl) (by decide) ?_
      refine am_sipush (v := (1200 : Int32)) (am_dec tmX11_undo 40 rfl) (by decide) ?_
      obtain ⟨x19, g18, hf⟩ := am_bd hf
      refine am_callS1 (As := [.int x17, .int (1 : Int32), .int (1200 : Int32)]) (st := [.int (x15.1 x2 1), .ref x8]) (am_dec tmX11_undo 41 rfl) ok_X11_bounded rfl lm_X11_339 st_X11_bounded (c_X11_bounded hE g18) rfl (by decide) (Nat.le_of_ble_eq_true rfl) (Nat.zero_le _) (Nat.zero_le _) rfl ?_
      obtain ⟨x21, g20, hf⟩ := am_bd hf
      refine am_callV0 (As := [.int (x15.1 x2 1), .int x19]) (st := []) hE (am_dec tmX11_undo 42 rfl) ok_X9_add rfl lm_X11_343 in_X9_add se_X9_add h_x8 cf9 (c_X9_add hE h_x8 g20) rfl (by decide) (Nat.le_of_ble_eq_true rfl) (Nat.zero_le _) (Nat.zero_le _) rfl ?_
      refine am_aload_n (am_dec tmX11_undo 43 rfl) rfl rfl ?_
      refine am_getR (j := 0) hE (am_dec tmX11_undo 44 rfl) sh_16 cf11 (by decide) rfl lf_X11_10 rf_16_0 ?_
      obtain ⟨x23, g22, hf⟩ := am_bd hf
      refine am_callV1 (As := []) (st := []) hE (am_dec tmX11_undo 45 rfl) ok_X1_takeMap rfl lm_X11_124 in_X1_takeMap se_X1_takeMap sh_17 cf1 (c_X1_takeMap hE g22) rfl (by decide) (Nat.le_of_ble_eq_true rfl) (Nat.zero_le _) (Nat.zero_le _) rfl ?_
      have hf := Sum.inr.inj (Option.some.inj hf)
      subst hf
      exact am_iret (am_dec tmX11_undo 46 rfl) rfl (Nat.zero_le _) (Nat.zero_le _)
    · rw [if_pos c13] at hf
      refine am_bipush (v := (-2 : Int32)) (am_dec tmX11_undo 26 rfl) (by decide) ?_
      have hf := Sum.inr.inj (Option.some.inj hf)
      subst hf
      exact am_iret (am_dec tmX11_undo 27 rfl) rfl (Nat.zero_le _) (Nat.zero_le _)
  · refine am_callV1 (w := .null) (As := []) (st := []) hE (am_dec tmX11_undo 9 rfl) ok_X1_freeMap rfl lm_X11_116 in_X1_freeMap se_X1_freeMap sh_17 cf1 (c_X1_freeMap hE  g7) rfl (by decide) (Nat.le_of_ble_eq_true rfl) (Nat.zero_le _) (Nat.zero_le _) rfl ?_
    refine am_astoreN (lv' := [(0, .ref 16), (1, .int p1), (2, .int p2), (3, .ref x2), (4, .null)]) (am_dec tmX11_undo 10 rfl) (by decide) rfl ?_
    refine am_aloadN (am_dec tmX11_undo 11 rfl) rfl ?_
    refine am_ifnonnullN (am_dec tmX11_undo 12 rfl) ?_
    refine am_iconst (v := (-1 : Int32)) (am_dec tmX11_undo 13 rfl) (by decide) ?_
    have hf := Sum.inr.inj (Option.some.inj hf)
    subst hf
    exact am_iret (am_dec tmX11_undo 14 rfl) rfl (Nat.zero_le _) (Nat.zero_le _)
set_option maxRecDepth 100000 in
set_option maxHeartbeats 4000000 in
theorem t_X11_undo {E : am_E} (hE : am_EH E) {p1 : Int32} {p2 : Int32} {D : am_D} {r : String × am_D}  (hf : f_X11_undo p1 p2 D = some (.inl r)) : am_C E mX11_undo 4 1 6 [.ref 16, .int p1, .int p2] am_G0 D (.inr r.1) am_G0 r.2 := by
  refine am_C_of (by decide +kernel) (Nat.le_of_ble_eq_true rfl) ?_
  change am_S E mX11_undo 4 1 6 (.inr r.1) am_G0 r.2 0 0 0 [(0, .ref 16), (1, .int p1), (2, .int p2)] [] am_G0 D
  unfold f_X11_undo at hf
  refine am_aload_n (am_dec tmX11_undo 0 rfl) rfl rfl ?_
  refine am_iload_n (am_dec tmX11_undo 1 rfl) rfl rfl ?_
  rcases am_btDT hf with ⟨g1, eD⟩ | ⟨x2, g1, hf⟩
  · rw [eD]
    exact am_callV_out (As := [.int p1]) (st := []) hE (am_dec tmX11_undo 2 rfl) ok_X11_soundOf rfl lm_X11_130 in_X11_soundOf se_X11_soundOf sh_16 cf11 (t_X11_soundOf hE g1) rfl (by decide) (Nat.le_of_ble_eq_true rfl) (Nat.le_refl _) (Nat.le_refl _) rfl rfl
  · have h_x2 := k_X11_soundOf g1
    refine am_callV1 (As := [.int p1]) (st := []) hE (am_dec tmX11_undo 2 rfl) ok_X11_soundOf rfl lm_X11_130 in_X11_soundOf se_X11_soundOf sh_16 cf11 (c_X11_soundOf hE g1) rfl (by decide) (Nat.le_of_ble_eq_true rfl) (Nat.zero_le _) (Nat.zero_le _) rfl ?_
    refine am_astore_n (lv' := [(0, .ref 16), (1, .int p1), (2, .int p2), (3, .ref x2)]) (am_dec tmX11_undo 3 rfl) rfl (by decide) rfl ?_
    refine am_iload_n (am_dec tmX11_undo 4 rfl) rfl rfl ?_
    obtain ⟨x4, g3, hf⟩ := am_bd hf
    refine am_callS1 (As := [.int p2]) (st := []) (am_dec tmX11_undo 5 rfl) ok_X11_isHum rfl lm_X11_318 st_X11_isHum (c_X11_isHum hE g3) rfl (by decide) (Nat.le_of_ble_eq_true rfl) (Nat.zero_le _) (Nat.zero_le _) rfl ?_
    rcases am_btDT hf with ⟨g5, eD⟩ | ⟨x6, g5, hf⟩
    · rw [eD]
      exact am_callS_out (As := [.int x4]) (st := []) (am_dec tmX11_undo 6 rfl) ok_X11_need rfl lm_X11_94 st_X11_need (t_X11_need hE g5) rfl (by decide) (Nat.le_of_ble_eq_true rfl) (Nat.le_refl _) (Nat.le_refl _) rfl rfl
    · refine am_callS0 (As := [.int x4]) (st := []) (am_dec tmX11_undo 6 rfl) ok_X11_need rfl lm_X11_94 st_X11_need (c_X11_need hE g5) rfl (by decide) (Nat.le_of_ble_eq_true rfl) (Nat.zero_le _) (Nat.zero_le _) rfl ?_
      refine am_aload_n (am_dec tmX11_undo 7 rfl) rfl rfl ?_
      refine am_getR (j := 0) hE (am_dec tmX11_undo 8 rfl) sh_16 cf11 (by decide) rfl lf_X11_10 rf_16_0 ?_
      rcases am_bnd hf with ⟨x8, g7, hf⟩ | ⟨g7, hf⟩
      · have h_x8 := k_X1_freeMap g7
        refine am_callV1 (w := .ref x8) (As := []) (st := []) hE (am_dec tmX11_undo 9 rfl) ok_X1_freeMap rfl lm_X11_116 in_X1_freeMap se_X1_freeMap sh_17 cf1 (c_X1_freeMap hE  g7) rfl (by decide) (Nat.le_of_ble_eq_true rfl) (Nat.zero_le _) (Nat.zero_le _) rfl ?_
        refine am_astore (lv' := [(0, .ref 16), (1, .int p1), (2, .int p2), (3, .ref x2), (4, .ref x8)]) (am_dec tmX11_undo 10 rfl) (by decide) rfl ?_
        refine am_aload (am_dec tmX11_undo 11 rfl) rfl ?_
        refine am_ifnonnull (tgt := 29) (am_dec tmX11_undo 12 rfl) (by decide) ?_
        refine am_aload_n (am_dec tmX11_undo 15 rfl) rfl rfl ?_
        refine am_getR (j := 11) hE (am_dec tmX11_undo 16 rfl) sh_16 cf11 (by decide) rfl lf_X11_72 rf_16_11 ?_
        refine am_aload_n (am_dec tmX11_undo 17 rfl) rfl rfl ?_
        obtain ⟨x10, g9, hf⟩ := am_bd hf
        refine am_callV0 (As := [.ref x2]) (st := []) hE (am_dec tmX11_undo 18 rfl) ok_X2_find rfl lm_X11_312 in_X2_find se_X2_find sh_112 cf2 (c_X2_find hE h_x2 g9) rfl (by decide) (Nat.le_of_ble_eq_true rfl) (Nat.zero_le _) (Nat.zero_le _) rfl ?_
        refine am_aload_n (am_dec tmX11_undo 19 rfl) rfl rfl ?_
        refine am_getR (j := 11) hE (am_dec tmX11_undo 20 rfl) sh_16 cf11 (by decide) rfl lf_X11_72 rf_16_11 ?_
        obtain ⟨x12, g11, hf⟩ := am_bd hf
        refine am_callV1 (As := []) (st := []) hE (am_dec tmX11_undo 21 rfl) ok_X2_hundredths rfl lm_X11_315 in_X2_hundredths se_X2_hundredths sh_112 cf2 (c_X2_hundredths hE g11) rfl (by decide) (Nat.le_of_ble_eq_true rfl) (Nat.zero_le _) (Nat.zero_le _) rfl ?_
        refine am_istore (lv' := [(0, .ref 16), (1, .int p1), (2, .int p2), (3, .ref x2), (4, .ref x8), (5, .int x12)]) (am_dec tmX11_undo 22 rfl) (by decide) rfl ?_
        refine am_iload (am_dec tmX11_undo 23 rfl) rfl ?_
        refine am_iconst (v := (-1 : Int32)) (am_dec tmX11_undo 24 rfl) (by decide) ?_
        refine am_icmp_ne (tgt := 55) (am_dec tmX11_undo 25 rfl) (by decide) (fun c13 => ?_) (fun c13 => ?_)
        · rw [if_neg c13] at hf
          refine am_aload (am_dec tmX11_undo 28 rfl) rfl ?_
          obtain ⟨x15, g14, hf⟩ := am_bd hf
          refine am_callV0 (As := []) (st := []) hE (am_dec tmX11_undo 29 rfl) ok_X9_clear rfl lm_X11_333 in_X9_clear se_X9_clear h_x8 cf9 (c_X9_clear hE h_x8 g14) rfl (by decide) (Nat.le_of_ble_eq_true rfl) (Nat.zero_le _) (Nat.zero_le _) rfl ?_
          refine am_aload (am_dec tmX11_undo 30 rfl) rfl ?_
          refine am_aload_n (am_dec tmX11_undo 31 rfl) rfl rfl ?_
          refine am_getI (j := 1) hE (am_dec tmX11_undo 32 rfl) h_x2 cf7 (by decide) rfl lf_X11_134 ?_
          refine am_aload_n (am_dec tmX11_undo 33 rfl) rfl rfl ?_
          refine am_getI (j := 1) hE (am_dec tmX11_undo 34 rfl) h_x2 cf7 (by decide) rfl lf_X11_134 ?_
          refine am_iload_n (am_dec tmX11_undo 35 rfl) rfl rfl ?_
          refine am_imul (am_dec tmX11_undo 36 rfl) ?_
          refine am_iload (am_dec tmX11_undo 37 rfl) rfl ?_
          obtain ⟨x17, g16, hf⟩ := am_bd hf
          refine am_callS1 (As := [.int ((x15.1 x2 1) * p2), .int x12]) (st := [.int (x15.1 x2 1), .ref x8]) (am_dec tmX11_undo 38 rfl) ok_X11_cut rfl lm_X11_336 st_X11_cut (c_X11_cut hE g16) rfl (by decide) (Nat.le_of_ble_eq_true rfl) (Nat.zero_le _) (Nat.zero_le _) rfl ?_
          refine am_iconst (v := (1 : Int32)) (am_dec tmX11_undo 39 rfl) (by decide) ?_
          refine am_sipush (v := (1200 : Int32)) (am_dec tmX11_undo 40 rfl) (by decide) ?_
          obtain ⟨x19, g18, hf⟩ := am_bd hf
          refine am_callS1 (As := [.int x17, .int (1 : Int32), .int (1200 : Int32)]) (st := [.int (x15.1 x2 1), .ref x8]) (am_dec tmX11_undo 41 rfl) ok_X11_bounded rfl lm_X11_339 st_X11_bounded (c_X11_bounded hE g18) rfl (by decide) (Nat.le_of_ble_eq_true rfl) (Nat.zero_le _) (Nat.zero_le _) rfl ?_
          obtain ⟨x21, g20, hf⟩ := am_bd hf
          refine am_callV0 (As := [.int (x15.1 x2 1), .int x19]) (st := []) hE (am_dec tmX11_undo 42 rfl) ok_X9_add rfl lm_X11_343 in_X9_add se_X9_add h_x8 cf9 (c_X9_add hE h_x8 g20) rfl (by decide) (Nat.le_of_ble_eq_true rfl) (Nat.zero_le _) (Nat.zero_le _) rfl ?_
          refine am_aload_n (am_dec tmX11_undo 43 rfl) rfl rfl ?_
          refine am_getR (j := 0) hE (am_dec tmX11_undo 44 rfl) sh_16 cf11 (by decide) rfl lf_X11_10 rf_16_0 ?_
          obtain ⟨x23, g22, hf⟩ := am_bd hf
          refine am_callV1 (As := []) (st := []) hE (am_dec tmX11_undo 45 rfl) ok_X1_takeMap rfl lm_X11_124 in_X1_takeMap se_X1_takeMap sh_17 cf1 (c_X1_takeMap hE g22) rfl (by decide) (Nat.le_of_ble_eq_true rfl) (Nat.zero_le _) (Nat.zero_le _) rfl ?_
          cases hf
        · rw [if_pos c13] at hf
          refine am_bipush (v := (-2 : Int32)) (am_dec tmX11_undo 26 rfl) (by decide) ?_
          cases hf
      · refine am_callV1 (w := .null) (As := []) (st := []) hE (am_dec tmX11_undo 9 rfl) ok_X1_freeMap rfl lm_X11_116 in_X1_freeMap se_X1_freeMap sh_17 cf1 (c_X1_freeMap hE  g7) rfl (by decide) (Nat.le_of_ble_eq_true rfl) (Nat.zero_le _) (Nat.zero_le _) rfl ?_
        refine am_astoreN (lv' := [(0, .ref 16), (1, .int p1), (2, .int p2), (3, .ref x2), (4, .null)]) (am_dec tmX11_undo 10 rfl) (by decide) rfl ?_
        refine am_aloadN (am_dec tmX11_undo 11 rfl) rfl ?_
        refine am_ifnonnullN (am_dec tmX11_undo 12 rfl) ?_
        refine am_iconst (v := (-1 : Int32)) (am_dec tmX11_undo 13 rfl) (by decide) ?_
        cases hf
def f_X11_wobble (p1 : Int32) (p2 : Int32) (D : am_D) : Option ((String × am_D) ⊕ (Int32 × am_D)) :=
    am_btD (f_X11_soundOf p1 D) D fun x2 =>
    (f_X11_within p2 (0 : Int32) (1 : Int32)).bind fun x4 =>
    am_btD (f_X11_need x4) D fun x6 =>
    (f_X2_find x2 D).bind fun x8 =>
    (f_X2_intervals x8).bind fun x10 =>
    if (2 : Int32) ≤ x10 then
    if p2 = 0 then
    (f_X2_turns x8).bind fun x16 =>
    some (.inr (x16, x8))
    else
    (f_X2_swing x8).bind fun x14 =>
    some (.inr (x14, x8))
    else
    some (.inr ((-1 : Int32), x8))
set_option maxRecDepth 100000 in
set_option maxHeartbeats 4000000 in
theorem c_X11_wobble {E : am_E} (hE : am_EH E) {p1 : Int32} {p2 : Int32} {D : am_D} {r : (Int32 × am_D)}  (hf : f_X11_wobble p1 p2 D = some (.inr r)) : am_C E mX11_wobble 4 0 0 [.ref 16, .int p1, .int p2] am_G0 D (.inl (some (.int r.1))) am_G0 r.2 := by
  refine am_C_of (by decide +kernel) (Nat.le_of_ble_eq_true rfl) ?_
  change am_S E mX11_wobble 4 0 0 (.inl (some (.int r.1))) am_G0 r.2 0 0 0 [(0, .ref 16), (1, .int p1), (2, .int p2)] [] am_G0 D
  unfold f_X11_wobble at hf
  refine am_aload_n (am_dec tmX11_wobble 0 rfl) rfl rfl ?_
  refine am_iload_n (am_dec tmX11_wobble 1 rfl) rfl rfl ?_
  obtain ⟨x2, g1, hf⟩ := am_btDR hf
  have h_x2 := k_X11_soundOf g1
  refine am_callV1 (As := [.int p1]) (st := []) hE (am_dec tmX11_wobble 2 rfl) ok_X11_soundOf rfl lm_X11_130 in_X11_soundOf se_X11_soundOf sh_16 cf11 (c_X11_soundOf hE g1) rfl (by decide) (Nat.le_of_ble_eq_true rfl) (Nat.zero_le _) (Nat.zero_le _) rfl ?_
  refine am_astore_n (lv' := [(0, .ref 16), (1, .int p1), (2, .int p2), (3, .ref x2)]) (am_dec tmX11_wobble 3 rfl) rfl (by decide) rfl ?_
  refine am_iload_n (am_dec tmX11_wobble 4 rfl) rfl rfl ?_
  refine am_iconst (v := (0 : Int32)) (am_dec tmX11_wobble 5 rfl) (by decide) ?_
  refine am_iconst (v := (1 : Int32)) (am_dec tmX11_wobble 6 rfl) (by decide) ?_
  obtain ⟨x4, g3, hf⟩ := am_bd hf
  refine am_callS1 (As := [.int p2, .int (0 : Int32), .int (1 : Int32)]) (st := []) (am_dec tmX11_wobble 7 rfl) ok_X11_within rfl lm_X11_143 st_X11_within (c_X11_within hE g3) rfl (by decide) (Nat.le_of_ble_eq_true rfl) (Nat.zero_le _) (Nat.zero_le _) rfl ?_
  obtain ⟨x6, g5, hf⟩ := am_btDR hf
  refine am_callS0 (As := [.int x4]) (st := []) (am_dec tmX11_wobble 8 rfl) ok_X11_need rfl lm_X11_94 st_X11_need (c_X11_need hE g5) rfl (by decide) (Nat.le_of_ble_eq_true rfl) (Nat.zero_le _) (Nat.zero_le _) rfl ?_
  refine am_aload_n (am_dec tmX11_wobble 9 rfl) rfl rfl ?_
  refine am_getR (j := 11) hE (am_dec tmX11_wobble 10 rfl) sh_16 cf11 (by decide) rfl lf_X11_72 rf_16_11 ?_
  refine am_aload_n (am_dec tmX11_wobble 11 rfl) rfl rfl ?_
  obtain ⟨x8, g7, hf⟩ := am_bd hf
  refine am_callV0 (As := [.ref x2]) (st := []) hE (am_dec tmX11_wobble 12 rfl) ok_X2_find rfl lm_X11_312 in_X2_find se_X2_find sh_112 cf2 (c_X2_find hE h_x2 g7) rfl (by decide) (Nat.le_of_ble_eq_true rfl) (Nat.zero_le _) (Nat.zero_le _) rfl ?_
  refine am_aload_n (am_dec tmX11_wobble 13 rfl) rfl rfl ?_
  refine am_getR (j := 11) hE (am_dec tmX11_wobble 14 rfl) sh_16 cf11 (by decide) rfl lf_X11_72 rf_16_11 ?_
  obtain ⟨x10, g9, hf⟩ := am_bd hf
  refine am_callV1 (As := []) (st := []) hE (am_dec tmX11_wobble 15 rfl) ok_X2_intervals rfl lm_X11_346 in_X2_intervals se_X2_intervals sh_112 cf2 (c_X2_intervals hE g9) rfl (by decide) (Nat.le_of_ble_eq_true rfl) (Nat.zero_le _) (Nat.zero_le _) rfl ?_
  refine am_iconst (v := (2 : Int32)) (am_dec tmX11_wobble 16 rfl) (by decide) ?_
  refine am_icmp_ge (tgt := 36) (am_dec tmX11_wobble 17 rfl) (by decide) (fun c11 => ?_) (fun c11 => ?_)
  · rw [if_pos c11] at hf
    refine am_iload_n (am_dec tmX11_wobble 20 rfl) rfl rfl ?_
    refine am_if_ne (tgt := 50) (am_dec tmX11_wobble 21 rfl) (by decide) (fun c12 => ?_) (fun c12 => ?_)
    · rw [if_neg c12] at hf
      refine am_aload_n (am_dec tmX11_wobble 26 rfl) rfl rfl ?_
      refine am_getR (j := 11) hE (am_dec tmX11_wobble 27 rfl) sh_16 cf11 (by decide) rfl lf_X11_72 rf_16_11 ?_
      obtain ⟨x14, g13, hf⟩ := am_bd hf
      refine am_callV1 (As := []) (st := []) hE (am_dec tmX11_wobble 28 rfl) ok_X2_swing rfl lm_X11_352 in_X2_swing se_X2_swing sh_112 cf2 (c_X2_swing hE g13) rfl (by decide) (Nat.le_of_ble_eq_true rfl) (Nat.zero_le _) (Nat.zero_le _) rfl ?_
      have hf := Sum.inr.inj (Option.some.inj hf)
      subst hf
      exact am_iret (am_dec tmX11_wobble 29 rfl) rfl (Nat.zero_le _) (Nat.zero_le _)
    · rw [if_pos c12] at hf
      refine am_aload_n (am_dec tmX11_wobble 22 rfl) rfl rfl ?_
      refine am_getR (j := 11) hE (am_dec tmX11_wobble 23 rfl) sh_16 cf11 (by decide) rfl lf_X11_72 rf_16_11 ?_
      obtain ⟨x16, g15, hf⟩ := am_bd hf
      refine am_callV1 (As := []) (st := []) hE (am_dec tmX11_wobble 24 rfl) ok_X2_turns rfl lm_X11_349 in_X2_turns se_X2_turns sh_112 cf2 (c_X2_turns hE g15) rfl (by decide) (Nat.le_of_ble_eq_true rfl) (Nat.zero_le _) (Nat.zero_le _) rfl ?_
      refine am_goto (tgt := 57) (am_dec tmX11_wobble 25 rfl) (by decide) ?_
      have hf := Sum.inr.inj (Option.some.inj hf)
      subst hf
      exact am_iret (am_dec tmX11_wobble 29 rfl) rfl (Nat.zero_le _) (Nat.zero_le _)
  · rw [if_neg c11] at hf
    refine am_iconst (v := (-1 : Int32)) (am_dec tmX11_wobble 18 rfl) (by decide) ?_
    have hf := Sum.inr.inj (Option.some.inj hf)
    subst hf
    exact am_iret (am_dec tmX11_wobble 19 rfl) rfl (Nat.zero_le _) (Nat.zero_le _)
set_option maxRecDepth 100000 in
set_option maxHeartbeats 4000000 in
theorem t_X11_wobble {E : am_E} (hE : am_EH E) {p1 : Int32} {p2 : Int32} {D : am_D} {r : String × am_D}  (hf : f_X11_wobble p1 p2 D = some (.inl r)) : am_C E mX11_wobble 4 1 6 [.ref 16, .int p1, .int p2] am_G0 D (.inr r.1) am_G0 r.2 := by
  refine am_C_of (by decide +kernel) (Nat.le_of_ble_eq_true rfl) ?_
  change am_S E mX11_wobble 4 1 6 (.inr r.1) am_G0 r.2 0 0 0 [(0, .ref 16), (1, .int p1), (2, .int p2)] [] am_G0 D
  unfold f_X11_wobble at hf
  refine am_aload_n (am_dec tmX11_wobble 0 rfl) rfl rfl ?_
  refine am_iload_n (am_dec tmX11_wobble 1 rfl) rfl rfl ?_
  rcases am_btDT hf with ⟨g1, eD⟩ | ⟨x2, g1, hf⟩
  · rw [eD]
    exact am_callV_out (As := [.int p1]) (st := []) hE (am_dec tmX11_wobble 2 rfl) ok_X11_soundOf rfl lm_X11_130 in_X11_soundOf se_X11_soundOf sh_16 cf11 (t_X11_soundOf hE g1) rfl (by decide) (Nat.le_of_ble_eq_true rfl) (Nat.le_refl _) (Nat.le_refl _) rfl rfl
  · have h_x2 := k_X11_soundOf g1
    refine am_callV1 (As := [.int p1]) (st := []) hE (am_dec tmX11_wobble 2 rfl) ok_X11_soundOf rfl lm_X11_130 in_X11_soundOf se_X11_soundOf sh_16 cf11 (c_X11_soundOf hE g1) rfl (by decide) (Nat.le_of_ble_eq_true rfl) (Nat.zero_le _) (Nat.zero_le _) rfl ?_
    refine am_astore_n (lv' := [(0, .ref 16), (1, .int p1), (2, .int p2), (3, .ref x2)]) (am_dec tmX11_wobble 3 rfl) rfl (by decide) rfl ?_
    refine am_iload_n (am_dec tmX11_wobble 4 rfl) rfl rfl ?_
    refine am_iconst (v := (0 : Int32)) (am_dec tmX11_wobble 5 rfl) (by decide) ?_
    refine am_iconst (v := (1 : Int32)) (am_dec tmX11_wobble 6 rfl) (by decide) ?_
    obtain ⟨x4, g3, hf⟩ := am_bd hf
    refine am_callS1 (As := [.int p2, .int (0 : Int32), .int (1 : Int32)]) (st := []) (am_dec tmX11_wobble 7 rfl) ok_X11_within rfl lm_X11_143 st_X11_within (c_X11_within hE g3) rfl (by decide) (Nat.le_of_ble_eq_true rfl) (Nat.zero_le _) (Nat.zero_le _) rfl ?_
    rcases am_btDT hf with ⟨g5, eD⟩ | ⟨x6, g5, hf⟩
    · rw [eD]
      exact am_callS_out (As := [.int x4]) (st := []) (am_dec tmX11_wobble 8 rfl) ok_X11_need rfl lm_X11_94 st_X11_need (t_X11_need hE g5) rfl (by decide) (Nat.le_of_ble_eq_true rfl) (Nat.le_refl _) (Nat.le_refl _) rfl rfl
    · refine am_callS0 (As := [.int x4]) (st := []) (am_dec tmX11_wobble 8 rfl) ok_X11_need rfl lm_X11_94 st_X11_need (c_X11_need hE g5) rfl (by decide) (Nat.le_of_ble_eq_true rfl) (Nat.zero_le _) (Nat.zero_le _) rfl ?_
      refine am_aload_n (am_dec tmX11_wobble 9 rfl) rfl rfl ?_
      refine am_getR (j := 11) hE (am_dec tmX11_wobble 10 rfl) sh_16 cf11 (by decide) rfl lf_X11_72 rf_16_11 ?_
      refine am_aload_n (am_dec tmX11_wobble 11 rfl) rfl rfl ?_
      obtain ⟨x8, g7, hf⟩ := am_bd hf
      refine am_callV0 (As := [.ref x2]) (st := []) hE (am_dec tmX11_wobble 12 rfl) ok_X2_find rfl lm_X11_312 in_X2_find se_X2_find sh_112 cf2 (c_X2_find hE h_x2 g7) rfl (by decide) (Nat.le_of_ble_eq_true rfl) (Nat.zero_le _) (Nat.zero_le _) rfl ?_
      refine am_aload_n (am_dec tmX11_wobble 13 rfl) rfl rfl ?_
      refine am_getR (j := 11) hE (am_dec tmX11_wobble 14 rfl) sh_16 cf11 (by decide) rfl lf_X11_72 rf_16_11 ?_
      obtain ⟨x10, g9, hf⟩ := am_bd hf
      refine am_callV1 (As := []) (st := []) hE (am_dec tmX11_wobble 15 rfl) ok_X2_intervals rfl lm_X11_346 in_X2_intervals se_X2_intervals sh_112 cf2 (c_X2_intervals hE g9) rfl (by decide) (Nat.le_of_ble_eq_true rfl) (Nat.zero_le _) (Nat.zero_le _) rfl ?_
      refine am_iconst (v := (2 : Int32)) (am_dec tmX11_wobble 16 rfl) (by decide) ?_
      refine am_icmp_ge (tgt := 36) (am_dec tmX11_wobble 17 rfl) (by decide) (fun c11 => ?_) (fun c11 => ?_)
      · rw [if_pos c11] at hf
        refine am_iload_n (am_dec tmX11_wobble 20 rfl) rfl rfl ?_
        refine am_if_ne (tgt := 50) (am_dec tmX11_wobble 21 rfl) (by decide) (fun c12 => ?_) (fun c12 => ?_)
        · rw [if_neg c12] at hf
          refine am_aload_n (am_dec tmX11_wobble 26 rfl) rfl rfl ?_
          refine am_getR (j := 11) hE (am_dec tmX11_wobble 27 rfl) sh_16 cf11 (by decide) rfl lf_X11_72 rf_16_11 ?_
          obtain ⟨x14, g13, hf⟩ := am_bd hf
          refine am_callV1 (As := []) (st := []) hE (am_dec tmX11_wobble 28 rfl) ok_X2_swing rfl lm_X11_352 in_X2_swing se_X2_swing sh_112 cf2 (c_X2_swing hE g13) rfl (by decide) (Nat.le_of_ble_eq_true rfl) (Nat.zero_le _) (Nat.zero_le _) rfl ?_
          cases hf
        · rw [if_pos c12] at hf
          refine am_aload_n (am_dec tmX11_wobble 22 rfl) rfl rfl ?_
          refine am_getR (j := 11) hE (am_dec tmX11_wobble 23 rfl) sh_16 cf11 (by decide) rfl lf_X11_72 rf_16_11 ?_
          obtain ⟨x16, g15, hf⟩ := am_bd hf
          refine am_callV1 (As := []) (st := []) hE (am_dec tmX11_wobble 24 rfl) ok_X2_turns rfl lm_X11_349 in_X2_turns se_X2_turns sh_112 cf2 (c_X2_turns hE g15) rfl (by decide) (Nat.le_of_ble_eq_true rfl) (Nat.zero_le _) (Nat.zero_le _) rfl ?_
          refine am_goto (tgt := 57) (am_dec tmX11_wobble 25 rfl) (by decide) ?_
          cases hf
      · rw [if_neg c11] at hf
        refine am_iconst (v := (-1 : Int32)) (am_dec tmX11_wobble 18 rfl) (by decide) ?_
        cases hf
def f_X11_beat (p1 : Int32) (p2 : Int32) (D : am_D) : Option ((String × am_D) ⊕ (Int32 × am_D)) :=
    am_btD (f_X11_soundOf p1 D) D fun x2 =>
    (f_X11_within p2 (0 : Int32) (2 : Int32)).bind fun x4 =>
    am_btD (f_X11_need x4) D fun x6 =>
    (f_X0_find 106 x2 D).bind fun x8 =>
    if (2 : Int32) ≤ (x8.1 106 2) then
    (f_X0_findGrid 106 x8).bind fun x11 =>
    if p2 = 0 then
    some (.inr ((x11.1 106 3), x11))
    else
    if p2 = (1 : Int32) then
    some (.inr ((x11.1 106 4), x11))
    else
    some (.inr ((x11.1 106 5), x11))
    else
    some (.inr ((-1 : Int32), x8))
set_option maxRecDepth 100000 in
set_option maxHeartbeats 4000000 in
theorem c_X11_beat {E : am_E} (hE : am_EH E) {p1 : Int32} {p2 : Int32} {D : am_D} {r : (Int32 × am_D)}  (hf : f_X11_beat p1 p2 D = some (.inr r)) : am_C E mX11_beat 5 0 0 [.ref 16, .int p1, .int p2] am_G0 D (.inl (some (.int r.1))) am_G0 r.2 := by
  refine am_C_of (by decide +kernel) (Nat.le_of_ble_eq_true rfl) ?_
  change am_S E mX11_beat 5 0 0 (.inl (some (.int r.1))) am_G0 r.2 0 0 0 [(0, .ref 16), (1, .int p1), (2, .int p2)] [] am_G0 D
  unfold f_X11_beat at hf
  refine am_aload_n (am_dec tmX11_beat 0 rfl) rfl rfl ?_
  refine am_iload_n (am_dec tmX11_beat 1 rfl) rfl rfl ?_
  obtain ⟨x2, g1, hf⟩ := am_btDR hf
  have h_x2 := k_X11_soundOf g1
  refine am_callV1 (As := [.int p1]) (st := []) hE (am_dec tmX11_beat 2 rfl) ok_X11_soundOf rfl lm_X11_130 in_X11_soundOf se_X11_soundOf sh_16 cf11 (c_X11_soundOf hE g1) rfl (by decide) (Nat.le_of_ble_eq_true rfl) (Nat.zero_le _) (Nat.zero_le _) rfl ?_
  refine am_astore_n (lv' := [(0, .ref 16), (1, .int p1), (2, .int p2), (3, .ref x2)]) (am_dec tmX11_beat 3 rfl) rfl (by decide) rfl ?_
  refine am_iload_n (am_dec tmX11_beat 4 rfl) rfl rfl ?_
  refine am_iconst (v := (0 : Int32)) (am_dec tmX11_beat 5 rfl) (by decide) ?_
  refine am_iconst (v := (2 : Int32)) (am_dec tmX11_beat 6 rfl) (by decide) ?_
  obtain ⟨x4, g3, hf⟩ := am_bd hf
  refine am_callS1 (As := [.int p2, .int (0 : Int32), .int (2 : Int32)]) (st := []) (am_dec tmX11_beat 7 rfl) ok_X11_within rfl lm_X11_143 st_X11_within (c_X11_within hE g3) rfl (by decide) (Nat.le_of_ble_eq_true rfl) (Nat.zero_le _) (Nat.zero_le _) rfl ?_
  obtain ⟨x6, g5, hf⟩ := am_btDR hf
  refine am_callS0 (As := [.int x4]) (st := []) (am_dec tmX11_beat 8 rfl) ok_X11_need rfl lm_X11_94 st_X11_need (c_X11_need hE g5) rfl (by decide) (Nat.le_of_ble_eq_true rfl) (Nat.zero_le _) (Nat.zero_le _) rfl ?_
  refine am_aload_n (am_dec tmX11_beat 9 rfl) rfl rfl ?_
  refine am_getR (j := 9) hE (am_dec tmX11_beat 10 rfl) sh_16 cf11 (by decide) rfl lf_X11_62 rf_16_9 ?_
  refine am_aload_n (am_dec tmX11_beat 11 rfl) rfl rfl ?_
  refine am_aload_n (am_dec tmX11_beat 12 rfl) rfl rfl ?_
  refine am_getR (j := 0) hE (am_dec tmX11_beat 13 rfl) sh_16 cf11 (by decide) rfl lf_X11_10 rf_16_0 ?_
  obtain ⟨x8, g7, hf⟩ := am_bd hf
  refine am_callV0 (As := [.ref x2, .ref 17]) (st := []) hE (am_dec tmX11_beat 14 rfl) ok_X0_find rfl lm_X11_186 in_X0_find se_X0_find sh_106 cf0 (c_X0_find hE sh_106 h_x2 g7) rfl (by decide) (Nat.le_of_ble_eq_true rfl) (Nat.zero_le _) (Nat.zero_le _) rfl ?_
  refine am_aload_n (am_dec tmX11_beat 15 rfl) rfl rfl ?_
  refine am_getR (j := 9) hE (am_dec tmX11_beat 16 rfl) sh_16 cf11 (by decide) rfl lf_X11_62 rf_16_9 ?_
  refine am_getI (j := 2) hE (am_dec tmX11_beat 17 rfl) sh_106 cf0 (by decide) rfl lf_X11_216 ?_
  refine am_iconst (v := (2 : Int32)) (am_dec tmX11_beat 18 rfl) (by decide) ?_
  refine am_icmp_ge (tgt := 40) (am_dec tmX11_beat 19 rfl) (by decide) (fun c9 => ?_) (fun c9 => ?_)
  · rw [if_pos c9] at hf
    refine am_aload_n (am_dec tmX11_beat 22 rfl) rfl rfl ?_
    refine am_getR (j := 9) hE (am_dec tmX11_beat 23 rfl) sh_16 cf11 (by decide) rfl lf_X11_62 rf_16_9 ?_
    obtain ⟨x11, g10, hf⟩ := am_bd hf
    refine am_callV0 (As := []) (st := []) hE (am_dec tmX11_beat 24 rfl) ok_X0_findGrid rfl lm_X11_355 in_X0_findGrid se_X0_findGrid sh_106 cf0 (c_X0_findGrid hE sh_106 g10) rfl (by decide) (Nat.le_of_ble_eq_true rfl) (Nat.zero_le _) (Nat.zero_le _) rfl ?_
    refine am_iload_n (am_dec tmX11_beat 25 rfl) rfl rfl ?_
    refine am_if_ne (tgt := 61) (am_dec tmX11_beat 26 rfl) (by decide) (fun c12 => ?_) (fun c12 => ?_)
    · rw [if_neg c12] at hf
      refine am_iload_n (am_dec tmX11_beat 31 rfl) rfl rfl ?_
      refine am_iconst (v := (1 : Int32)) (am_dec tmX11_beat 32 rfl) (by decide) ?_
      refine am_icmp_ne (tgt := 76) (am_dec tmX11_beat 33 rfl) (by decide) (fun c13 => ?_) (fun c13 => ?_)
      · rw [if_neg c13] at hf
        refine am_aload_n (am_dec tmX11_beat 38 rfl) rfl rfl ?_
        refine am_getR (j := 9) hE (am_dec tmX11_beat 39 rfl) sh_16 cf11 (by decide) rfl lf_X11_62 rf_16_9 ?_
        refine am_getI (j := 5) hE (am_dec tmX11_beat 40 rfl) sh_106 cf0 (by decide) rfl lf_X11_364 ?_
        have hf := Sum.inr.inj (Option.some.inj hf)
        subst hf
        exact am_iret (am_dec tmX11_beat 41 rfl) rfl (Nat.zero_le _) (Nat.zero_le _)
      · rw [if_pos c13] at hf
        refine am_aload_n (am_dec tmX11_beat 34 rfl) rfl rfl ?_
        refine am_getR (j := 9) hE (am_dec tmX11_beat 35 rfl) sh_16 cf11 (by decide) rfl lf_X11_62 rf_16_9 ?_
        refine am_getI (j := 4) hE (am_dec tmX11_beat 36 rfl) sh_106 cf0 (by decide) rfl lf_X11_361 ?_
        refine am_goto (tgt := 83) (am_dec tmX11_beat 37 rfl) (by decide) ?_
        have hf := Sum.inr.inj (Option.some.inj hf)
        subst hf
        exact am_iret (am_dec tmX11_beat 41 rfl) rfl (Nat.zero_le _) (Nat.zero_le _)
    · rw [if_pos c12] at hf
      refine am_aload_n (am_dec tmX11_beat 27 rfl) rfl rfl ?_
      refine am_getR (j := 9) hE (am_dec tmX11_beat 28 rfl) sh_16 cf11 (by decide) rfl lf_X11_62 rf_16_9 ?_
      refine am_getI (j := 3) hE (am_dec tmX11_beat 29 rfl) sh_106 cf0 (by decide) rfl lf_X11_358 ?_
      refine am_goto (tgt := 83) (am_dec tmX11_beat 30 rfl) (by decide) ?_
      have hf := Sum.inr.inj (Option.some.inj hf)
      subst hf
      exact am_iret (am_dec tmX11_beat 41 rfl) rfl (Nat.zero_le _) (Nat.zero_le _)
  · rw [if_neg c9] at hf
    refine am_iconst (v := (-1 : Int32)) (am_dec tmX11_beat 20 rfl) (by decide) ?_
    have hf := Sum.inr.inj (Option.some.inj hf)
    subst hf
    exact am_iret (am_dec tmX11_beat 21 rfl) rfl (Nat.zero_le _) (Nat.zero_le _)
set_option maxRecDepth 100000 in
set_option maxHeartbeats 4000000 in
theorem t_X11_beat {E : am_E} (hE : am_EH E) {p1 : Int32} {p2 : Int32} {D : am_D} {r : String × am_D}  (hf : f_X11_beat p1 p2 D = some (.inl r)) : am_C E mX11_beat 5 1 6 [.ref 16, .int p1, .int p2] am_G0 D (.inr r.1) am_G0 r.2 := by
  refine am_C_of (by decide +kernel) (Nat.le_of_ble_eq_true rfl) ?_
  change am_S E mX11_beat 5 1 6 (.inr r.1) am_G0 r.2 0 0 0 [(0, .ref 16), (1, .int p1), (2, .int p2)] [] am_G0 D
  unfold f_X11_beat at hf
  refine am_aload_n (am_dec tmX11_beat 0 rfl) rfl rfl ?_
  refine am_iload_n (am_dec tmX11_beat 1 rfl) rfl rfl ?_
  rcases am_btDT hf with ⟨g1, eD⟩ | ⟨x2, g1, hf⟩
  · rw [eD]
    exact am_callV_out (As := [.int p1]) (st := []) hE (am_dec tmX11_beat 2 rfl) ok_X11_soundOf rfl lm_X11_130 in_X11_soundOf se_X11_soundOf sh_16 cf11 (t_X11_soundOf hE g1) rfl (by decide) (Nat.le_of_ble_eq_true rfl) (Nat.le_refl _) (Nat.le_refl _) rfl rfl
  · have h_x2 := k_X11_soundOf g1
    refine am_callV1 (As := [.int p1]) (st := []) hE (am_dec tmX11_beat 2 rfl) ok_X11_soundOf rfl lm_X11_130 in_X11_soundOf se_X11_soundOf sh_16 cf11 (c_X11_soundOf hE g1) rfl (by decide) (Nat.le_of_ble_eq_true rfl) (Nat.zero_le _) (Nat.zero_le _) rfl ?_
    refine am_astore_n (lv' := [(0, .ref 16), (1, .int p1), (2, .int p2), (3, .ref x2)]) (am_dec tmX11_beat 3 rfl) rfl (by decide) rfl ?_
    refine am_iload_n (am_dec tmX11_beat 4 rfl) rfl rfl ?_
    refine am_iconst (v := (0 : Int32)) (am_dec tmX11_beat 5 rfl) (by decide) ?_
    refine am_iconst (v := (2 : Int32)) (am_dec tmX11_beat 6 rfl) (by decide) ?_
    obtain ⟨x4, g3, hf⟩ := am_bd hf
    refine am_callS1 (As := [.int p2, .int (0 : Int32), .int (2 : Int32)]) (st := []) (am_dec tmX11_beat 7 rfl) ok_X11_within rfl lm_X11_143 st_X11_within (c_X11_within hE g3) rfl (by decide) (Nat.le_of_ble_eq_true rfl) (Nat.zero_le _) (Nat.zero_le _) rfl ?_
    rcases am_btDT hf with ⟨g5, eD⟩ | ⟨x6, g5, hf⟩
    · rw [eD]
      exact am_callS_out (As := [.int x4]) (st := []) (am_dec tmX11_beat 8 rfl) ok_X11_need rfl lm_X11_94 st_X11_need (t_X11_need hE g5) rfl (by decide) (Nat.le_of_ble_eq_true rfl) (Nat.le_refl _) (Nat.le_refl _) rfl rfl
    · refine am_callS0 (As := [.int x4]) (st := []) (am_dec tmX11_beat 8 rfl) ok_X11_need rfl lm_X11_94 st_X11_need (c_X11_need hE g5) rfl (by decide) (Nat.le_of_ble_eq_true rfl) (Nat.zero_le _) (Nat.zero_le _) rfl ?_
      refine am_aload_n (am_dec tmX11_beat 9 rfl) rfl rfl ?_
      refine am_getR (j := 9) hE (am_dec tmX11_beat 10 rfl) sh_16 cf11 (by decide) rfl lf_X11_62 rf_16_9 ?_
      refine am_aload_n (am_dec tmX11_beat 11 rfl) rfl rfl ?_
      refine am_aload_n (am_dec tmX11_beat 12 rfl) rfl rfl ?_
      refine am_getR (j := 0) hE (am_dec tmX11_beat 13 rfl) sh_16 cf11 (by decide) rfl lf_X11_10 rf_16_0 ?_
      obtain ⟨x8, g7, hf⟩ := am_bd hf
      refine am_callV0 (As := [.ref x2, .ref 17]) (st := []) hE (am_dec tmX11_beat 14 rfl) ok_X0_find rfl lm_X11_186 in_X0_find se_X0_find sh_106 cf0 (c_X0_find hE sh_106 h_x2 g7) rfl (by decide) (Nat.le_of_ble_eq_true rfl) (Nat.zero_le _) (Nat.zero_le _) rfl ?_
      refine am_aload_n (am_dec tmX11_beat 15 rfl) rfl rfl ?_
      refine am_getR (j := 9) hE (am_dec tmX11_beat 16 rfl) sh_16 cf11 (by decide) rfl lf_X11_62 rf_16_9 ?_
      refine am_getI (j := 2) hE (am_dec tmX11_beat 17 rfl) sh_106 cf0 (by decide) rfl lf_X11_216 ?_
      refine am_iconst (v := (2 : Int32)) (am_dec tmX11_beat 18 rfl) (by decide) ?_
      refine am_icmp_ge (tgt := 40) (am_dec tmX11_beat 19 rfl) (by decide) (fun c9 => ?_) (fun c9 => ?_)
      · rw [if_pos c9] at hf
        refine am_aload_n (am_dec tmX11_beat 22 rfl) rfl rfl ?_
        refine am_getR (j := 9) hE (am_dec tmX11_beat 23 rfl) sh_16 cf11 (by decide) rfl lf_X11_62 rf_16_9 ?_
        obtain ⟨x11, g10, hf⟩ := am_bd hf
        refine am_callV0 (As := []) (st := []) hE (am_dec tmX11_beat 24 rfl) ok_X0_findGrid rfl lm_X11_355 in_X0_findGrid se_X0_findGrid sh_106 cf0 (c_X0_findGrid hE sh_106 g10) rfl (by decide) (Nat.le_of_ble_eq_true rfl) (Nat.zero_le _) (Nat.zero_le _) rfl ?_
        refine am_iload_n (am_dec tmX11_beat 25 rfl) rfl rfl ?_
        refine am_if_ne (tgt := 61) (am_dec tmX11_beat 26 rfl) (by decide) (fun c12 => ?_) (fun c12 => ?_)
        · rw [if_neg c12] at hf
          refine am_iload_n (am_dec tmX11_beat 31 rfl) rfl rfl ?_
          refine am_iconst (v := (1 : Int32)) (am_dec tmX11_beat 32 rfl) (by decide) ?_
          refine am_icmp_ne (tgt := 76) (am_dec tmX11_beat 33 rfl) (by decide) (fun c13 => ?_) (fun c13 => ?_)
          · rw [if_neg c13] at hf
            refine am_aload_n (am_dec tmX11_beat 38 rfl) rfl rfl ?_
            refine am_getR (j := 9) hE (am_dec tmX11_beat 39 rfl) sh_16 cf11 (by decide) rfl lf_X11_62 rf_16_9 ?_
            refine am_getI (j := 5) hE (am_dec tmX11_beat 40 rfl) sh_106 cf0 (by decide) rfl lf_X11_364 ?_
            cases hf
          · rw [if_pos c13] at hf
            refine am_aload_n (am_dec tmX11_beat 34 rfl) rfl rfl ?_
            refine am_getR (j := 9) hE (am_dec tmX11_beat 35 rfl) sh_16 cf11 (by decide) rfl lf_X11_62 rf_16_9 ?_
            refine am_getI (j := 4) hE (am_dec tmX11_beat 36 rfl) sh_106 cf0 (by decide) rfl lf_X11_361 ?_
            refine am_goto (tgt := 83) (am_dec tmX11_beat 37 rfl) (by decide) ?_
            cases hf
        · rw [if_pos c12] at hf
          refine am_aload_n (am_dec tmX11_beat 27 rfl) rfl rfl ?_
          refine am_getR (j := 9) hE (am_dec tmX11_beat 28 rfl) sh_16 cf11 (by decide) rfl lf_X11_62 rf_16_9 ?_
          refine am_getI (j := 3) hE (am_dec tmX11_beat 29 rfl) sh_106 cf0 (by decide) rfl lf_X11_358 ?_
          refine am_goto (tgt := 83) (am_dec tmX11_beat 30 rfl) (by decide) ?_
          cases hf
      · rw [if_neg c9] at hf
        refine am_iconst (v := (-1 : Int32)) (am_dec tmX11_beat 20 rfl) (by decide) ?_
        cases hf
def f_X11_onto (p1 : Int32) (p2 : Int32) (D : am_D) : Option ((String × am_D) ⊕ (Int32 × am_D)) :=
    am_btD (f_X11_soundOf p1 D) D fun x2 =>
    (f_X11_within p2 (1 : Int32) (200 : Int32)).bind fun x4 =>
    am_btD (f_X11_need x4) D fun x6 =>
    am_bn (f_X1_freeMap D)
    (fun x8 =>
    (f_X0_find 106 x2 D).bind fun x10 =>
    if (2 : Int32) ≤ (x10.1 106 2) then
    (f_X0_findGrid 106 x10).bind fun x13 =>
    (f_X0_intoMap 106 p2 x8 x13).bind fun x15 =>
    (f_X9_addRest x8 (x15.1 x2 1) x15).bind fun x17 =>
    (f_X9_lastTo x8 x17).bind fun x19 =>
    if x19 ≤ (1200 : Int32) then
    (f_X1_takeMap x17).bind fun x22 =>
    some (.inr (x22.1, x22.2))
    else
    some (.inr ((-2 : Int32), x17))
    else
    some (.inr ((-2 : Int32), x10)))
    (some (.inr ((-1 : Int32), D)))
set_option maxRecDepth 100000 in
set_option maxHeartbeats 4000000 in
theorem c_X11_onto {E : am_E} (hE : am_EH E) {p1 : Int32} {p2 : Int32} {D : am_D} {r : (Int32 × am_D)}  (hf : f_X11_onto p1 p2 D = some (.inr r)) : am_C E mX11_onto 5 0 0 [.ref 16, .int p1, .int p2] am_G0 D (.inl (some (.int r.1))) am_G0 r.2 := by
  refine am_C_of (by decide +kernel) (Nat.le_of_ble_eq_true rfl) ?_
  change am_S E mX11_onto 5 0 0 (.inl (some (.int r.1))) am_G0 r.2 0 0 0 [(0, .ref 16), (1, .int p1), (2, .int p2)] [] am_G0 D
  unfold f_X11_onto at hf
  refine am_aload_n (am_dec tmX11_onto 0 rfl) rfl rfl ?_
  refine am_iload_n (am_dec tmX11_onto 1 rfl) rfl rfl ?_
  obtain ⟨x2, g1, hf⟩ := am_btDR hf
  have h_x2 := k_X11_soundOf g1
  refine am_callV1 (As := [.int p1]) (st := []) hE (am_dec tmX11_onto 2 rfl) ok_X11_soundOf rfl lm_X11_130 in_X11_soundOf se_X11_soundOf sh_16 cf11 (c_X11_soundOf hE g1) rfl (by decide) (Nat.le_of_ble_eq_true rfl) (Nat.zero_le _) (Nat.zero_le _) rfl ?_
  refine am_astore_n (lv' := [(0, .ref 16), (1, .int p1), (2, .int p2), (3, .ref x2)]) (am_dec tmX11_onto 3 rfl) rfl (by decide) rfl ?_
  refine am_iload_n (am_dec tmX11_onto 4 rfl) rfl rfl ?_
  refine am_iconst (v := (1 : Int32)) (am_dec tmX11_onto 5 rfl) (by decide) ?_
  refine am_sipush (v := (200 : Int32)) (am_dec tmX11_onto 6 rfl) (by decide) ?_
  obtain ⟨x4, g3, hf⟩ := am_bd hf
  refine am_callS1 (As := [.int p2, .int (1 : Int32), .int (200 : Int32)]) (st := []) (am_dec tmX11_onto 7 rfl) ok_X11_within rfl lm_X11_143 st_X11_within (c_X11_within hE g3) rfl (by decide) (Nat.le_of_ble_eq_true rfl) (Nat.zero_le _) (Nat.zero_le _) rfl ?_
  obtain ⟨x6, g5, hf⟩ := am_btDR hf
  refine am_callS0 (As := [.int x4]) (st := []) (am_dec tmX11_onto 8 rfl) ok_X11_need rfl lm_X11_94 st_X11_need (c_X11_need hE g5) rfl (by decide) (Nat.le_of_ble_eq_true rfl) (Nat.zero_le _) (Nat.zero_le _) rfl ?_
  refine am_aload_n (am_dec tmX11_onto 9 rfl) rfl rfl ?_
  refine am_getR (j := 0) hE (am_dec tmX11_onto 10 rfl) sh_16 cf11 (by decide) rfl lf_X11_10 rf_16_0 ?_
  rcases am_bnd hf with ⟨x8, g7, hf⟩ | ⟨g7, hf⟩
  · have h_x8 := k_X1_freeMap g7
    refine am_callV1 (w := .ref x8) (As := []) (st := []) hE (am_dec tmX11_onto 11 rfl) ok_X1_freeMap rfl lm_X11_116 in_X1_freeMap se_X1_freeMap sh_17 cf1 (c_X1_freeMap hE  g7) rfl (by decide) (Nat.le_of_ble_eq_true rfl) (Nat.zero_le _) (Nat.zero_le _) rfl ?_
    refine am_astore (lv' := [(0, .ref 16), (1, .int p1), (2, .int p2), (3, .ref x2), (4, .ref x8)]) (am_dec tmX11_onto 12 rfl) (by decide) rfl ?_
    refine am_aload (am_dec tmX11_onto 13 rfl) rfl ?_
    refine am_ifnonnull (tgt := 33) (am_dec tmX11_onto 14 rfl) (by decide) ?_
    refine am_aload_n (am_dec tmX11_onto 17 rfl) rfl rfl ?_
    refine am_getR (j := 9) hE (am_dec tmX11_onto 18 rfl) sh_16 cf11 (by decide) rfl lf_X11_62 rf_16_9 ?_
    refine am_aload_n (am_dec tmX11_onto 19 rfl) rfl rfl ?_
    refine am_aload_n (am_dec tmX11_onto 20 rfl) rfl rfl ?_
    refine am_getR (j := 0) hE (am_dec tmX11_onto 21 rfl) sh_16 cf11 (by decide) rfl lf_X11_10 rf_16_0 ?_
    obtain ⟨x10, g9, hf⟩ := am_bd hf
    refine am_callV0 (As := [.ref x2, .ref 17]) (st := []) hE (am_dec tmX11_onto 22 rfl) ok_X0_find rfl lm_X11_186 in_X0_find se_X0_find sh_106 cf0 (c_X0_find hE sh_106 h_x2 g9) rfl (by decide) (Nat.le_of_ble_eq_true rfl) (Nat.zero_le _) (Nat.zero_le _) rfl ?_
    refine am_aload_n (am_dec tmX11_onto 23 rfl) rfl rfl ?_
    refine am_getR (j := 9) hE (am_dec tmX11_onto 24 rfl) sh_16 cf11 (by decide) rfl lf_X11_62 rf_16_9 ?_
    refine am_getI (j := 2) hE (am_dec tmX11_onto 25 rfl) sh_106 cf0 (by decide) rfl lf_X11_216 ?_
    refine am_iconst (v := (2 : Int32)) (am_dec tmX11_onto 26 rfl) (by decide) ?_
    refine am_icmp_ge (tgt := 59) (am_dec tmX11_onto 27 rfl) (by decide) (fun c11 => ?_) (fun c11 => ?_)
    · rw [if_pos c11] at hf
      refine am_aload_n (am_dec tmX11_onto 30 rfl) rfl rfl ?_
      refine am_getR (j := 9) hE (am_dec tmX11_onto 31 rfl) sh_16 cf11 (by decide) rfl lf_X11_62 rf_16_9 ?_
      obtain ⟨x13, g12, hf⟩ := am_bd hf
      refine am_callV0 (As := []) (st := []) hE (am_dec tmX11_onto 32 rfl) ok_X0_findGrid rfl lm_X11_355 in_X0_findGrid se_X0_findGrid sh_106 cf0 (c_X0_findGrid hE sh_106 g12) rfl (by decide) (Nat.le_of_ble_eq_true rfl) (Nat.zero_le _) (Nat.zero_le _) rfl ?_
      refine am_aload_n (am_dec tmX11_onto 33 rfl) rfl rfl ?_
      refine am_getR (j := 9) hE (am_dec tmX11_onto 34 rfl) sh_16 cf11 (by decide) rfl lf_X11_62 rf_16_9 ?_
      refine am_iload_n (am_dec tmX11_onto 35 rfl) rfl rfl ?_
      refine am_aload (am_dec tmX11_onto 36 rfl) rfl ?_
      obtain ⟨x15, g14, hf⟩ := am_bd hf
      refine am_callV0 (As := [.int p2, .ref x8]) (st := []) hE (am_dec tmX11_onto 37 rfl) ok_X0_intoMap rfl lm_X11_367 in_X0_intoMap se_X0_intoMap sh_106 cf0 (c_X0_intoMap hE sh_106 h_x8 g14) rfl (by decide) (Nat.le_of_ble_eq_true rfl) (Nat.zero_le _) (Nat.zero_le _) rfl ?_
      refine am_aload (am_dec tmX11_onto 38 rfl) rfl ?_
      refine am_aload_n (am_dec tmX11_onto 39 rfl) rfl rfl ?_
      refine am_getI (j := 1) hE (am_dec tmX11_onto 40 rfl) h_x2 cf7 (by decide) rfl lf_X11_134 ?_
      obtain ⟨x17, g16, hf⟩ := am_bd hf
      refine am_callV0 (As := [.int (x15.1 x2 1)]) (st := []) hE (am_dec tmX11_onto 41 rfl) ok_X9_addRest rfl lm_X11_370 in_X9_addRest se_X9_addRest h_x8 cf9 (c_X9_addRest hE h_x8 g16) rfl (by decide) (Nat.le_of_ble_eq_true rfl) (Nat.zero_le _) (Nat.zero_le _) rfl ?_
      refine am_aload (am_dec tmX11_onto 42 rfl) rfl ?_
      obtain ⟨x19, g18, hf⟩ := am_bd hf
      refine am_callV1 (As := []) (st := []) hE (am_dec tmX11_onto 43 rfl) ok_X9_lastTo rfl lm_X11_148 in_X9_lastTo se_X9_lastTo h_x8 cf9 (c_X9_lastTo hE h_x8 g18) rfl (by decide) (Nat.le_of_ble_eq_true rfl) (Nat.zero_le _) (Nat.zero_le _) rfl ?_
      refine am_sipush (v := (1200 : Int32)) (am_dec tmX11_onto 44 rfl) (by decide) ?_
      refine am_icmp_le (tgt := 101) (am_dec tmX11_onto 45 rfl) (by decide) (fun c20 => ?_) (fun c20 => ?_)
      · rw [if_pos c20] at hf
        refine am_aload_n (am_dec tmX11_onto 48 rfl) rfl rfl ?_
        refine am_getR (j := 0) hE (am_dec tmX11_onto 49 rfl) sh_16 cf11 (by decide) rfl lf_X11_10 rf_16_0 ?_
        obtain ⟨x22, g21, hf⟩ := am_bd hf
        refine am_callV1 (As := []) (st := []) hE (am_dec tmX11_onto 50 rfl) ok_X1_takeMap rfl lm_X11_124 in_X1_takeMap se_X1_takeMap sh_17 cf1 (c_X1_takeMap hE g21) rfl (by decide) (Nat.le_of_ble_eq_true rfl) (Nat.zero_le _) (Nat.zero_le _) rfl ?_
        have hf := Sum.inr.inj (Option.some.inj hf)
        subst hf
        exact am_iret (am_dec tmX11_onto 51 rfl) rfl (Nat.zero_le _) (Nat.zero_le _)
      · rw [if_neg c20] at hf
        refine am_bipush (v := (-2 : Int32)) (am_dec tmX11_onto 46 rfl) (by decide) ?_
        refine am_goto (tgt := 108) (am_dec tmX11_onto 47 rfl) (by decide) ?_
        have hf := Sum.inr.inj (Option.some.inj hf)
        subst hf
        exact am_iret (am_dec tmX11_onto 51 rfl) rfl (Nat.zero_le _) (Nat.zero_le _)
    · rw [if_neg c11] at hf
      refine am_bipush (v := (-2 : Int32)) (am_dec tmX11_onto 28 rfl) (by decide) ?_
      have hf := Sum.inr.inj (Option.some.inj hf)
      subst hf
      exact am_iret (am_dec tmX11_onto 29 rfl) rfl (Nat.zero_le _) (Nat.zero_le _)
  · refine am_callV1 (w := .null) (As := []) (st := []) hE (am_dec tmX11_onto 11 rfl) ok_X1_freeMap rfl lm_X11_116 in_X1_freeMap se_X1_freeMap sh_17 cf1 (c_X1_freeMap hE  g7) rfl (by decide) (Nat.le_of_ble_eq_true rfl) (Nat.zero_le _) (Nat.zero_le _) rfl ?_
    refine am_astoreN (lv' := [(0, .ref 16), (1, .int p1), (2, .int p2), (3, .ref x2), (4, .null)]) (am_dec tmX11_onto 12 rfl) (by decide) rfl ?_
    refine am_aloadN (am_dec tmX11_onto 13 rfl) rfl ?_
    refine am_ifnonnullN (am_dec tmX11_onto 14 rfl) ?_
    refine am_iconst (v := (-1 : Int32)) (am_dec tmX11_onto 15 rfl) (by decide) ?_
    have hf := Sum.inr.inj (Option.some.inj hf)
    subst hf
    exact am_iret (am_dec tmX11_onto 16 rfl) rfl (Nat.zero_le _) (Nat.zero_le _)
set_option maxRecDepth 100000 in
set_option maxHeartbeats 4000000 in
theorem t_X11_onto {E : am_E} (hE : am_EH E) {p1 : Int32} {p2 : Int32} {D : am_D} {r : String × am_D}  (hf : f_X11_onto p1 p2 D = some (.inl r)) : am_C E mX11_onto 5 1 6 [.ref 16, .int p1, .int p2] am_G0 D (.inr r.1) am_G0 r.2 := by
  refine am_C_of (by decide +kernel) (Nat.le_of_ble_eq_true rfl) ?_
  change am_S E mX11_onto 5 1 6 (.inr r.1) am_G0 r.2 0 0 0 [(0, .ref 16), (1, .int p1), (2, .int p2)] [] am_G0 D
  unfold f_X11_onto at hf
  refine am_aload_n (am_dec tmX11_onto 0 rfl) rfl rfl ?_
  refine am_iload_n (am_dec tmX11_onto 1 rfl) rfl rfl ?_
  rcases am_btDT hf with ⟨g1, eD⟩ | ⟨x2, g1, hf⟩
  · rw [eD]
    exact am_callV_out (As := [.int p1]) (st := []) hE (am_dec tmX11_onto 2 rfl) ok_X11_soundOf rfl lm_X11_130 in_X11_soundOf se_X11_soundOf sh_16 cf11 (t_X11_soundOf hE g1) rfl (by decide) (Nat.le_of_ble_eq_true rfl) (Nat.le_refl _) (Nat.le_refl _) rfl rfl
  · have h_x2 := k_X11_soundOf g1
    refine am_callV1 (As := [.int p1]) (st := []) hE (am_dec tmX11_onto 2 rfl) ok_X11_soundOf rfl lm_X11_130 in_X11_soundOf se_X11_soundOf sh_16 cf11 (c_X11_soundOf hE g1) rfl (by decide) (Nat.le_of_ble_eq_true rfl) (Nat.zero_le _) (Nat.zero_le _) rfl ?_
    refine am_astore_n (lv' := [(0, .ref 16), (1, .int p1), (2, .int p2), (3, .ref x2)]) (am_dec tmX11_onto 3 rfl) rfl (by decide) rfl ?_
    refine am_iload_n (am_dec tmX11_onto 4 rfl) rfl rfl ?_
    refine am_iconst (v := (1 : Int32)) (am_dec tmX11_onto 5 rfl) (by decide) ?_
    refine am_sipush (v := (200 : Int32)) (am_dec tmX11_onto 6 rfl) (by decide) ?_
    obtain ⟨x4, g3, hf⟩ := am_bd hf
    refine am_callS1 (As := [.int p2, .int (1 : Int32), .int (200 : Int32)]) (st := []) (am_dec tmX11_onto 7 rfl) ok_X11_within rfl lm_X11_143 st_X11_within (c_X11_within hE g3) rfl (by decide) (Nat.le_of_ble_eq_true rfl) (Nat.zero_le _) (Nat.zero_le _) rfl ?_
    rcases am_btDT hf with ⟨g5, eD⟩ | ⟨x6, g5, hf⟩
    · rw [eD]
      exact am_callS_out (As := [.int x4]) (st := []) (am_dec tmX11_onto 8 rfl) ok_X11_need rfl lm_X11_94 st_X11_need (t_X11_need hE g5) rfl (by decide) (Nat.le_of_ble_eq_true rfl) (Nat.le_refl _) (Nat.le_refl _) rfl rfl
    · refine am_callS0 (As := [.int x4]) (st := []) (am_dec tmX11_onto 8 rfl) ok_X11_need rfl lm_X11_94 st_X11_need (c_X11_need hE g5) rfl (by decide) (Nat.le_of_ble_eq_true rfl) (Nat.zero_le _) (Nat.zero_le _) rfl ?_
      refine am_aload_n (am_dec tmX11_onto 9 rfl) rfl rfl ?_
      refine am_getR (j := 0) hE (am_dec tmX11_onto 10 rfl) sh_16 cf11 (by decide) rfl lf_X11_10 rf_16_0 ?_
      rcases am_bnd hf with ⟨x8, g7, hf⟩ | ⟨g7, hf⟩
      · have h_x8 := k_X1_freeMap g7
        refine am_callV1 (w := .ref x8) (As := []) (st := []) hE (am_dec tmX11_onto 11 rfl) ok_X1_freeMap rfl lm_X11_116 in_X1_freeMap se_X1_freeMap sh_17 cf1 (c_X1_freeMap hE  g7) rfl (by decide) (Nat.le_of_ble_eq_true rfl) (Nat.zero_le _) (Nat.zero_le _) rfl ?_
        refine am_astore (lv' := [(0, .ref 16), (1, .int p1), (2, .int p2), (3, .ref x2), (4, .ref x8)]) (am_dec tmX11_onto 12 rfl) (by decide) rfl ?_
        refine am_aload (am_dec tmX11_onto 13 rfl) rfl ?_
        refine am_ifnonnull (tgt := 33) (am_dec tmX11_onto 14 rfl) (by decide) ?_
        refine am_aload_n (am_dec tmX11_onto 17 rfl) rfl rfl ?_
        refine am_getR (j := 9) hE (am_dec tmX11_onto 18 rfl) sh_16 cf11 (by decide) rfl lf_X11_62 rf_16_9 ?_
        refine am_aload_n (am_dec tmX11_onto 19 rfl) rfl rfl ?_
        refine am_aload_n (am_dec tmX11_onto 20 rfl) rfl rfl ?_
        refine am_getR (j := 0) hE (am_dec tmX11_onto 21 rfl) sh_16 cf11 (by decide) rfl lf_X11_10 rf_16_0 ?_
        obtain ⟨x10, g9, hf⟩ := am_bd hf
        refine am_callV0 (As := [.ref x2, .ref 17]) (st := []) hE (am_dec tmX11_onto 22 rfl) ok_X0_find rfl lm_X11_186 in_X0_find se_X0_find sh_106 cf0 (c_X0_find hE sh_106 h_x2 g9) rfl (by decide) (Nat.le_of_ble_eq_true rfl) (Nat.zero_le _) (Nat.zero_le _) rfl ?_
        refine am_aload_n (am_dec tmX11_onto 23 rfl) rfl rfl ?_
        refine am_getR (j := 9) hE (am_dec tmX11_onto 24 rfl) sh_16 cf11 (by decide) rfl lf_X11_62 rf_16_9 ?_
        refine am_getI (j := 2) hE (am_dec tmX11_onto 25 rfl) sh_106 cf0 (by decide) rfl lf_X11_216 ?_
        refine am_iconst (v := (2 : Int32)) (am_dec tmX11_onto 26 rfl) (by decide) ?_
        refine am_icmp_ge (tgt := 59) (am_dec tmX11_onto 27 rfl) (by decide) (fun c11 => ?_) (fun c11 => ?_)
        · rw [if_pos c11] at hf
          refine am_aload_n (am_dec tmX11_onto 30 rfl) rfl rfl ?_
          refine am_getR (j := 9) hE (am_dec tmX11_onto 31 rfl) sh_16 cf11 (by decide) rfl lf_X11_62 rf_16_9 ?_
          obtain ⟨x13, g12, hf⟩ := am_bd hf
          refine am_callV0 (As := []) (st := []) hE (am_dec tmX11_onto 32 rfl) ok_X0_findGrid rfl lm_X11_355 in_X0_findGrid se_X0_findGrid sh_106 cf0 (c_X0_findGrid hE sh_106 g12) rfl (by decide) (Nat.le_of_ble_eq_true rfl) (Nat.zero_le _) (Nat.zero_le _) rfl ?_
          refine am_aload_n (am_dec tmX11_onto 33 rfl) rfl rfl ?_
          refine am_getR (j := 9) hE (am_dec tmX11_onto 34 rfl) sh_16 cf11 (by decide) rfl lf_X11_62 rf_16_9 ?_
          refine am_iload_n (am_dec tmX11_onto 35 rfl) rfl rfl ?_
          refine am_aload (am_dec tmX11_onto 36 rfl) rfl ?_
          obtain ⟨x15, g14, hf⟩ := am_bd hf
          refine am_callV0 (As := [.int p2, .ref x8]) (st := []) hE (am_dec tmX11_onto 37 rfl) ok_X0_intoMap rfl lm_X11_367 in_X0_intoMap se_X0_intoMap sh_106 cf0 (c_X0_intoMap hE sh_106 h_x8 g14) rfl (by decide) (Nat.le_of_ble_eq_true rfl) (Nat.zero_le _) (Nat.zero_le _) rfl ?_
          refine am_aload (am_dec tmX11_onto 38 rfl) rfl ?_
          refine am_aload_n (am_dec tmX11_onto 39 rfl) rfl rfl ?_
          refine am_getI (j := 1) hE (am_dec tmX11_onto 40 rfl) h_x2 cf7 (by decide) rfl lf_X11_134 ?_
          obtain ⟨x17, g16, hf⟩ := am_bd hf
          refine am_callV0 (As := [.int (x15.1 x2 1)]) (st := []) hE (am_dec tmX11_onto 41 rfl) ok_X9_addRest rfl lm_X11_370 in_X9_addRest se_X9_addRest h_x8 cf9 (c_X9_addRest hE h_x8 g16) rfl (by decide) (Nat.le_of_ble_eq_true rfl) (Nat.zero_le _) (Nat.zero_le _) rfl ?_
          refine am_aload (am_dec tmX11_onto 42 rfl) rfl ?_
          obtain ⟨x19, g18, hf⟩ := am_bd hf
          refine am_callV1 (As := []) (st := []) hE (am_dec tmX11_onto 43 rfl) ok_X9_lastTo rfl lm_X11_148 in_X9_lastTo se_X9_lastTo h_x8 cf9 (c_X9_lastTo hE h_x8 g18) rfl (by decide) (Nat.le_of_ble_eq_true rfl) (Nat.zero_le _) (Nat.zero_le _) rfl ?_
          refine am_sipush (v := (1200 : Int32)) (am_dec tmX11_onto 44 rfl) (by decide) ?_
          refine am_icmp_le (tgt := 101) (am_dec tmX11_onto 45 rfl) (by decide) (fun c20 => ?_) (fun c20 => ?_)
          · rw [if_pos c20] at hf
            refine am_aload_n (am_dec tmX11_onto 48 rfl) rfl rfl ?_
            refine am_getR (j := 0) hE (am_dec tmX11_onto 49 rfl) sh_16 cf11 (by decide) rfl lf_X11_10 rf_16_0 ?_
            obtain ⟨x22, g21, hf⟩ := am_bd hf
            refine am_callV1 (As := []) (st := []) hE (am_dec tmX11_onto 50 rfl) ok_X1_takeMap rfl lm_X11_124 in_X1_takeMap se_X1_takeMap sh_17 cf1 (c_X1_takeMap hE g21) rfl (by decide) (Nat.le_of_ble_eq_true rfl) (Nat.zero_le _) (Nat.zero_le _) rfl ?_
            cases hf
          · rw [if_neg c20] at hf
            refine am_bipush (v := (-2 : Int32)) (am_dec tmX11_onto 46 rfl) (by decide) ?_
            refine am_goto (tgt := 108) (am_dec tmX11_onto 47 rfl) (by decide) ?_
            cases hf
        · rw [if_neg c11] at hf
          refine am_bipush (v := (-2 : Int32)) (am_dec tmX11_onto 28 rfl) (by decide) ?_
          cases hf
      · refine am_callV1 (w := .null) (As := []) (st := []) hE (am_dec tmX11_onto 11 rfl) ok_X1_freeMap rfl lm_X11_116 in_X1_freeMap se_X1_freeMap sh_17 cf1 (c_X1_freeMap hE  g7) rfl (by decide) (Nat.le_of_ble_eq_true rfl) (Nat.zero_le _) (Nat.zero_le _) rfl ?_
        refine am_astoreN (lv' := [(0, .ref 16), (1, .int p1), (2, .int p2), (3, .ref x2), (4, .null)]) (am_dec tmX11_onto 12 rfl) (by decide) rfl ?_
        refine am_aloadN (am_dec tmX11_onto 13 rfl) rfl ?_
        refine am_ifnonnullN (am_dec tmX11_onto 14 rfl) ?_
        refine am_iconst (v := (-1 : Int32)) (am_dec tmX11_onto 15 rfl) (by decide) ?_
        cases hf
def f_X11_loop (p1 : Int32) (p2 : Int32) (p3 : Int32) (D : am_D) : Option ((String × am_D) ⊕ (Int32 × am_D)) :=
    am_btD (f_X11_soundOf p1 D) D fun x2 =>
    (f_X11_within p2 (1 : Int32) (600 : Int32)).bind fun x4 =>
    (if x4 = 0 then
    some ((0 : Int32))
    else
    (f_X11_within p3 (0 : Int32) (2 : Int32)).bind fun x8 =>
    if x8 = 0 then
    some ((0 : Int32))
    else
    some ((1 : Int32))).bind fun w10 =>
    am_btD (f_X11_need w10) D fun x12 =>
    (f_X7_findLoop x2 p2 (D.1 23 1) 116 D).bind fun x14 =>
    if x14.1 = 0 then
    some (.inr ((-1 : Int32), x14.2))
    else
    (am_gI x14.2 116 3 p3).bind fun x16 =>
    some (.inr (x16, x14.2))
set_option maxRecDepth 100000 in
set_option maxHeartbeats 4000000 in
theorem c_X11_loop {E : am_E} (hE : am_EH E) {p1 : Int32} {p2 : Int32} {p3 : Int32} {D : am_D} {r : (Int32 × am_D)}  (hf : f_X11_loop p1 p2 p3 D = some (.inr r)) : am_C E mX11_loop 4 0 0 [.ref 16, .int p1, .int p2, .int p3] am_G0 D (.inl (some (.int r.1))) am_G0 r.2 := by
  refine am_C_of (by decide +kernel) (Nat.le_of_ble_eq_true rfl) ?_
  change am_S E mX11_loop 4 0 0 (.inl (some (.int r.1))) am_G0 r.2 0 0 0 [(0, .ref 16), (1, .int p1), (2, .int p2), (3, .int p3)] [] am_G0 D
  unfold f_X11_loop at hf
  refine am_aload_n (am_dec tmX11_loop 0 rfl) rfl rfl ?_
  refine am_iload_n (am_dec tmX11_loop 1 rfl) rfl rfl ?_
  obtain ⟨x2, g1, hf⟩ := am_btDR hf
  have h_x2 := k_X11_soundOf g1
  refine am_callV1 (As := [.int p1]) (st := []) hE (am_dec tmX11_loop 2 rfl) ok_X11_soundOf rfl lm_X11_130 in_X11_soundOf se_X11_soundOf sh_16 cf11 (c_X11_soundOf hE g1) rfl (by decide) (Nat.le_of_ble_eq_true rfl) (Nat.zero_le _) (Nat.zero_le _) rfl ?_
  refine am_astore (lv' := [(0, .ref 16), (1, .int p1), (2, .int p2), (3, .int p3), (4, .ref x2)]) (am_dec tmX11_loop 3 rfl) (by decide) rfl ?_
  refine am_iload_n (am_dec tmX11_loop 4 rfl) rfl rfl ?_
  refine am_iconst (v := (1 : Int32)) (am_dec tmX11_loop 5 rfl) (by decide) ?_
  refine am_sipush (v := (600 : Int32)) (am_dec tmX11_loop 6 rfl) (by decide) ?_
  obtain ⟨x4, g3, hf⟩ := am_bd hf
  refine am_callS1 (As := [.int p2, .int (1 : Int32), .int (600 : Int32)]) (st := []) (am_dec tmX11_loop 7 rfl) ok_X11_within rfl lm_X11_143 st_X11_within (c_X11_within hE g3) rfl (by decide) (Nat.le_of_ble_eq_true rfl) (Nat.zero_le _) (Nat.zero_le _) rfl ?_
  obtain ⟨w10, g18, hf⟩ := am_bd hf
  have key6 : am_S E mX11_loop 4 0 0 (.inl (some (.int r.1))) am_G0 r.2 0 0 32 [(0, .ref 16), (2, .int p2), (3, .int p3), (4, .ref x2)] [.int w10] am_G0 D := by
    obtain ⟨x12, g11, hf⟩ := am_btDR hf
    refine am_callS0 (As := [.int w10]) (st := []) (am_dec tmX11_loop 17 rfl) ok_X11_need rfl lm_X11_94 st_X11_need (c_X11_need hE g11) rfl (by decide) (Nat.le_of_ble_eq_true rfl) (Nat.zero_le _) (Nat.zero_le _) rfl ?_
    refine am_aload (am_dec tmX11_loop 18 rfl) rfl ?_
    refine am_iload_n (am_dec tmX11_loop 19 rfl) rfl rfl ?_
    refine am_aload_n (am_dec tmX11_loop 20 rfl) rfl rfl ?_
    refine am_getR (j := 0) hE (am_dec tmX11_loop 21 rfl) sh_16 cf11 (by decide) rfl lf_X11_10 rf_16_0 ?_
    refine am_getR (j := 5) hE (am_dec tmX11_loop 22 rfl) sh_17 cf1 (by decide) rfl lf_X11_165 rf_17_5 ?_
    refine am_getI (j := 1) hE (am_dec tmX11_loop 23 rfl) sh_23 cf5 (by decide) rfl lf_X11_373 ?_
    refine am_aload_n (am_dec tmX11_loop 24 rfl) rfl rfl ?_
    refine am_getR (j := 13) hE (am_dec tmX11_loop 25 rfl) sh_16 cf11 (by decide) rfl lf_X11_83 rf_16_13 ?_
    obtain ⟨x14, g13, hf⟩ := am_bd hf
    refine am_callV1 (As := [.int p2, .int (D.1 23 1), .ref 116]) (st := []) hE (am_dec tmX11_loop 26 rfl) ok_X7_findLoop rfl lm_X11_376 in_X7_findLoop se_X7_findLoop h_x2 cf7 (c_X7_findLoop hE h_x2 (am_shl sh_116) g13) rfl (by decide) (Nat.le_of_ble_eq_true rfl) (Nat.zero_le _) (Nat.zero_le _) rfl ?_
    refine am_if_eq (tgt := 67) (am_dec tmX11_loop 27 rfl) (by decide) (fun c15 => ?_) (fun c15 => ?_)
    · rw [if_pos c15] at hf
      refine am_iconst (v := (-1 : Int32)) (am_dec tmX11_loop 33 rfl) (by decide) ?_
      have hf := Sum.inr.inj (Option.some.inj hf)
      subst hf
      exact am_iret (am_dec tmX11_loop 34 rfl) rfl (Nat.zero_le _) (Nat.zero_le _)
    · rw [if_neg c15] at hf
      refine am_aload_n (am_dec tmX11_loop 28 rfl) rfl rfl ?_
      refine am_getR (j := 13) hE (am_dec tmX11_loop 29 rfl) sh_16 cf11 (by decide) rfl lf_X11_83 rf_16_13 ?_
      refine am_iload_n (am_dec tmX11_loop 30 rfl) rfl rfl ?_
      obtain ⟨x16, g17, hf⟩ := am_bd hf
      refine am_iald2 hE (am_dec tmX11_loop 31 rfl) sh_116 g17 ?_
      refine am_goto (tgt := 68) (am_dec tmX11_loop 32 rfl) (by decide) ?_
      have hf := Sum.inr.inj (Option.some.inj hf)
      subst hf
      exact am_iret (am_dec tmX11_loop 34 rfl) rfl (Nat.zero_le _) (Nat.zero_le _)
  replace hf := g18
  refine am_if_eq (tgt := 31) (am_dec tmX11_loop 8 rfl) (by decide) (fun c5 => ?_) (fun c5 => ?_)
  · rw [if_pos c5] at hf
    refine am_iconst (v := (0 : Int32)) (am_dec tmX11_loop 16 rfl) (by decide) ?_
    have hf := Option.some.inj hf
    subst hf
    exact am_pick [0, 2, 3, 4] rfl key6
  · rw [if_neg c5] at hf
    refine am_iload_n (am_dec tmX11_loop 9 rfl) rfl rfl ?_
    refine am_iconst (v := (0 : Int32)) (am_dec tmX11_loop 10 rfl) (by decide) ?_
    refine am_iconst (v := (2 : Int32)) (am_dec tmX11_loop 11 rfl) (by decide) ?_
    obtain ⟨x8, g7, hf⟩ := am_bd hf
    refine am_callS1 (As := [.int p3, .int (0 : Int32), .int (2 : Int32)]) (st := []) (am_dec tmX11_loop 12 rfl) ok_X11_within rfl lm_X11_143 st_X11_within (c_X11_within hE g7) rfl (by decide) (Nat.le_of_ble_eq_true rfl) (Nat.zero_le _) (Nat.zero_le _) rfl ?_
    refine am_if_eq (tgt := 31) (am_dec tmX11_loop 13 rfl) (by decide) (fun c9 => ?_) (fun c9 => ?_)
    · rw [if_pos c9] at hf
      refine am_iconst (v := (0 : Int32)) (am_dec tmX11_loop 16 rfl) (by decide) ?_
      have hf := Option.some.inj hf
      subst hf
      exact am_pick [0, 2, 3, 4] rfl key6
    · rw [if_neg c9] at hf
      refine am_iconst (v := (1 : Int32)) (am_dec tmX11_loop 14 rfl) (by decide) ?_
      refine am_goto (tgt := 32) (am_dec tmX11_loop 15 rfl) (by decide) ?_
      have hf := Option.some.inj hf
      subst hf
      exact am_pick [0, 2, 3, 4] rfl key6
set_option maxRecDepth 100000 in
set_option maxHeartbeats 4000000 in
theorem t_X11_loop {E : am_E} (hE : am_EH E) {p1 : Int32} {p2 : Int32} {p3 : Int32} {D : am_D} {r : String × am_D}  (hf : f_X11_loop p1 p2 p3 D = some (.inl r)) : am_C E mX11_loop 4 1 6 [.ref 16, .int p1, .int p2, .int p3] am_G0 D (.inr r.1) am_G0 r.2 := by
  refine am_C_of (by decide +kernel) (Nat.le_of_ble_eq_true rfl) ?_
  change am_S E mX11_loop 4 1 6 (.inr r.1) am_G0 r.2 0 0 0 [(0, .ref 16), (1, .int p1), (2, .int p2), (3, .int p3)] [] am_G0 D
  unfold f_X11_loop at hf
  refine am_aload_n (am_dec tmX11_loop 0 rfl) rfl rfl ?_
  refine am_iload_n (am_dec tmX11_loop 1 rfl) rfl rfl ?_
  rcases am_btDT hf with ⟨g1, eD⟩ | ⟨x2, g1, hf⟩
  · rw [eD]
    exact am_callV_out (As := [.int p1]) (st := []) hE (am_dec tmX11_loop 2 rfl) ok_X11_soundOf rfl lm_X11_130 in_X11_soundOf se_X11_soundOf sh_16 cf11 (t_X11_soundOf hE g1) rfl (by decide) (Nat.le_of_ble_eq_true rfl) (Nat.le_refl _) (Nat.le_refl _) rfl rfl
  · have h_x2 := k_X11_soundOf g1
    refine am_callV1 (As := [.int p1]) (st := []) hE (am_dec tmX11_loop 2 rfl) ok_X11_soundOf rfl lm_X11_130 in_X11_soundOf se_X11_soundOf sh_16 cf11 (c_X11_soundOf hE g1) rfl (by decide) (Nat.le_of_ble_eq_true rfl) (Nat.zero_le _) (Nat.zero_le _) rfl ?_
    refine am_astore (lv' := [(0, .ref 16), (1, .int p1), (2, .int p2), (3, .int p3), (4, .ref x2)]) (am_dec tmX11_loop 3 rfl) (by decide) rfl ?_
    refine am_iload_n (am_dec tmX11_loop 4 rfl) rfl rfl ?_
    refine am_iconst (v := (1 : Int32)) (am_dec tmX11_loop 5 rfl) (by decide) ?_
    refine am_sipush (v := (600 : Int32)) (am_dec tmX11_loop 6 rfl) (by decide) ?_
    obtain ⟨x4, g3, hf⟩ := am_bd hf
    refine am_callS1 (As := [.int p2, .int (1 : Int32), .int (600 : Int32)]) (st := []) (am_dec tmX11_loop 7 rfl) ok_X11_within rfl lm_X11_143 st_X11_within (c_X11_within hE g3) rfl (by decide) (Nat.le_of_ble_eq_true rfl) (Nat.zero_le _) (Nat.zero_le _) rfl ?_
    obtain ⟨w10, g18, hf⟩ := am_bd hf
    have key6 : am_S E mX11_loop 4 1 6 (.inr r.1) am_G0 r.2 0 0 32 [(0, .ref 16), (2, .int p2), (3, .int p3), (4, .ref x2)] [.int w10] am_G0 D := by
      rcases am_btDT hf with ⟨g11, eD⟩ | ⟨x12, g11, hf⟩
      · rw [eD]
        exact am_callS_out (As := [.int w10]) (st := []) (am_dec tmX11_loop 17 rfl) ok_X11_need rfl lm_X11_94 st_X11_need (t_X11_need hE g11) rfl (by decide) (Nat.le_of_ble_eq_true rfl) (Nat.le_refl _) (Nat.le_refl _) rfl rfl
      · refine am_callS0 (As := [.int w10]) (st := []) (am_dec tmX11_loop 17 rfl) ok_X11_need rfl lm_X11_94 st_X11_need (c_X11_need hE g11) rfl (by decide) (Nat.le_of_ble_eq_true rfl) (Nat.zero_le _) (Nat.zero_le _) rfl ?_
        refine am_aload (am_dec tmX11_loop 18 rfl) rfl ?_
        refine am_iload_n (am_dec tmX11_loop 19 rfl) rfl rfl ?_
        refine am_aload_n (am_dec tmX11_loop 20 rfl) rfl rfl ?_
        refine am_getR (j := 0) hE (am_dec tmX11_loop 21 rfl) sh_16 cf11 (by decide) rfl lf_X11_10 rf_16_0 ?_
        refine am_getR (j := 5) hE (am_dec tmX11_loop 22 rfl) sh_17 cf1 (by decide) rfl lf_X11_165 rf_17_5 ?_
        refine am_getI (j := 1) hE (am_dec tmX11_loop 23 rfl) sh_23 cf5 (by decide) rfl lf_X11_373 ?_
        refine am_aload_n (am_dec tmX11_loop 24 rfl) rfl rfl ?_
        refine am_getR (j := 13) hE (am_dec tmX11_loop 25 rfl) sh_16 cf11 (by decide) rfl lf_X11_83 rf_16_13 ?_
        obtain ⟨x14, g13, hf⟩ := am_bd hf
        refine am_callV1 (As := [.int p2, .int (D.1 23 1), .ref 116]) (st := []) hE (am_dec tmX11_loop 26 rfl) ok_X7_findLoop rfl lm_X11_376 in_X7_findLoop se_X7_findLoop h_x2 cf7 (c_X7_findLoop hE h_x2 (am_shl sh_116) g13) rfl (by decide) (Nat.le_of_ble_eq_true rfl) (Nat.zero_le _) (Nat.zero_le _) rfl ?_
        refine am_if_eq (tgt := 67) (am_dec tmX11_loop 27 rfl) (by decide) (fun c15 => ?_) (fun c15 => ?_)
        · rw [if_pos c15] at hf
          refine am_iconst (v := (-1 : Int32)) (am_dec tmX11_loop 33 rfl) (by decide) ?_
          cases hf
        · rw [if_neg c15] at hf
          refine am_aload_n (am_dec tmX11_loop 28 rfl) rfl rfl ?_
          refine am_getR (j := 13) hE (am_dec tmX11_loop 29 rfl) sh_16 cf11 (by decide) rfl lf_X11_83 rf_16_13 ?_
          refine am_iload_n (am_dec tmX11_loop 30 rfl) rfl rfl ?_
          obtain ⟨x16, g17, hf⟩ := am_bd hf
          refine am_iald2 hE (am_dec tmX11_loop 31 rfl) sh_116 g17 ?_
          refine am_goto (tgt := 68) (am_dec tmX11_loop 32 rfl) (by decide) ?_
          cases hf
    replace hf := g18
    refine am_if_eq (tgt := 31) (am_dec tmX11_loop 8 rfl) (by decide) (fun c5 => ?_) (fun c5 => ?_)
    · rw [if_pos c5] at hf
      refine am_iconst (v := (0 : Int32)) (am_dec tmX11_loop 16 rfl) (by decide) ?_
      have hf := Option.some.inj hf
      subst hf
      exact am_pick [0, 2, 3, 4] rfl key6
    · rw [if_neg c5] at hf
      refine am_iload_n (am_dec tmX11_loop 9 rfl) rfl rfl ?_
      refine am_iconst (v := (0 : Int32)) (am_dec tmX11_loop 10 rfl) (by decide) ?_
      refine am_iconst (v := (2 : Int32)) (am_dec tmX11_loop 11 rfl) (by decide) ?_
      obtain ⟨x8, g7, hf⟩ := am_bd hf
      refine am_callS1 (As := [.int p3, .int (0 : Int32), .int (2 : Int32)]) (st := []) (am_dec tmX11_loop 12 rfl) ok_X11_within rfl lm_X11_143 st_X11_within (c_X11_within hE g7) rfl (by decide) (Nat.le_of_ble_eq_true rfl) (Nat.zero_le _) (Nat.zero_le _) rfl ?_
      refine am_if_eq (tgt := 31) (am_dec tmX11_loop 13 rfl) (by decide) (fun c9 => ?_) (fun c9 => ?_)
      · rw [if_pos c9] at hf
        refine am_iconst (v := (0 : Int32)) (am_dec tmX11_loop 16 rfl) (by decide) ?_
        have hf := Option.some.inj hf
        subst hf
        exact am_pick [0, 2, 3, 4] rfl key6
      · rw [if_neg c9] at hf
        refine am_iconst (v := (1 : Int32)) (am_dec tmX11_loop 14 rfl) (by decide) ?_
        refine am_goto (tgt := 32) (am_dec tmX11_loop 15 rfl) (by decide) ?_
        have hf := Option.some.inj hf
        subst hf
        exact am_pick [0, 2, 3, 4] rfl key6
def f_X11_join (p1 : Int32) (p2 : Int32) (D : am_D) : Option ((String × am_D) ⊕ (Int32 × am_D)) :=
    am_btD (f_X11_soundOf p1 D) D fun x2 =>
    am_btD (f_X11_soundOf p2 D) D fun x4 =>
    am_bn (f_X1_freeSound D)
    (fun x6 =>
    if (D.1 x2 1) < (D.1 23 1) then
    some (.inr ((-2 : Int32), D))
    else
    if (D.1 23 1) ≤ (D.1 x4 1) then
    (f_X7_bestJoin x2 x4 (D.1 23 1) (D.1 23 2) D).bind fun x10 =>
    if (x10 + (D.1 x4 1)) ≤ (600 : Int32) then
    (f_X7_joinOf x6 x2 x4 x10 (D.1 23 1) D).bind fun x13 =>
    (f_X1_takeSound x13).bind fun x15 =>
    some (.inr (x15.1, x15.2))
    else
    some (.inr ((-2 : Int32), D))
    else
    some (.inr ((-2 : Int32), D)))
    (some (.inr ((-1 : Int32), D)))
set_option maxRecDepth 100000 in
set_option maxHeartbeats 4000000 in
theorem c_X11_join {E : am_E} (hE : am_EH E) {p1 : Int32} {p2 : Int32} {D : am_D} {r : (Int32 × am_D)}  (hf : f_X11_join p1 p2 D = some (.inr r)) : am_C E mX11_join 5 0 0 [.ref 16, .int p1, .int p2] am_G0 D (.inl (some (.int r.1))) am_G0 r.2 := by
  refine am_C_of (by decide +kernel) (Nat.le_of_ble_eq_true rfl) ?_
  change am_S E mX11_join 5 0 0 (.inl (some (.int r.1))) am_G0 r.2 0 0 0 [(0, .ref 16), (1, .int p1), (2, .int p2)] [] am_G0 D
  unfold f_X11_join at hf
  refine am_aload_n (am_dec tmX11_join 0 rfl) rfl rfl ?_
  refine am_iload_n (am_dec tmX11_join 1 rfl) rfl rfl ?_
  obtain ⟨x2, g1, hf⟩ := am_btDR hf
  have h_x2 := k_X11_soundOf g1
  refine am_callV1 (As := [.int p1]) (st := []) hE (am_dec tmX11_join 2 rfl) ok_X11_soundOf rfl lm_X11_130 in_X11_soundOf se_X11_soundOf sh_16 cf11 (c_X11_soundOf hE g1) rfl (by decide) (Nat.le_of_ble_eq_true rfl) (Nat.zero_le _) (Nat.zero_le _) rfl ?_
  refine am_astore_n (lv' := [(0, .ref 16), (1, .int p1), (2, .int p2), (3, .ref x2)]) (am_dec tmX11_join 3 rfl) rfl (by decide) rfl ?_
  refine am_aload_n (am_dec tmX11_join 4 rfl) rfl rfl ?_
  refine am_iload_n (am_dec tmX11_join 5 rfl) rfl rfl ?_
  obtain ⟨x4, g3, hf⟩ := am_btDR hf
  have h_x4 := k_X11_soundOf g3
  refine am_callV1 (As := [.int p2]) (st := []) hE (am_dec tmX11_join 6 rfl) ok_X11_soundOf rfl lm_X11_130 in_X11_soundOf se_X11_soundOf sh_16 cf11 (c_X11_soundOf hE g3) rfl (by decide) (Nat.le_of_ble_eq_true rfl) (Nat.zero_le _) (Nat.zero_le _) rfl ?_
  refine am_astore (lv' := [(0, .ref 16), (1, .int p1), (2, .int p2), (3, .ref x2), (4, .ref x4)]) (am_dec tmX11_join 7 rfl) (by decide) rfl ?_
  refine am_aload_n (am_dec tmX11_join 8 rfl) rfl rfl ?_
  refine am_getR (j := 0) hE (am_dec tmX11_join 9 rfl) sh_16 cf11 (by decide) rfl lf_X11_10 rf_16_0 ?_
  rcases am_bnd hf with ⟨x6, g5, hf⟩ | ⟨g5, hf⟩
  · have h_x6 := k_X1_freeSound g5
    refine am_callV1 (w := .ref x6) (As := []) (st := []) hE (am_dec tmX11_join 10 rfl) ok_X1_freeSound rfl lm_X11_101 in_X1_freeSound se_X1_freeSound sh_17 cf1 (c_X1_freeSound hE  g5) rfl (by decide) (Nat.le_of_ble_eq_true rfl) (Nat.zero_le _) (Nat.zero_le _) rfl ?_
    refine am_astore (lv' := [(0, .ref 16), (1, .int p1), (2, .int p2), (3, .ref x2), (4, .ref x4), (5, .ref x6)]) (am_dec tmX11_join 11 rfl) (by decide) rfl ?_
    refine am_aload (am_dec tmX11_join 12 rfl) rfl ?_
    refine am_ifnonnull (tgt := 29) (am_dec tmX11_join 13 rfl) (by decide) ?_
    refine am_aload_n (am_dec tmX11_join 16 rfl) rfl rfl ?_
    refine am_getR (j := 0) hE (am_dec tmX11_join 17 rfl) sh_16 cf11 (by decide) rfl lf_X11_10 rf_16_0 ?_
    refine am_getR (j := 5) hE (am_dec tmX11_join 18 rfl) sh_17 cf1 (by decide) rfl lf_X11_165 rf_17_5 ?_
    refine am_getI (j := 1) hE (am_dec tmX11_join 19 rfl) sh_23 cf5 (by decide) rfl lf_X11_373 ?_
    refine am_istore (lv' := [(0, .ref 16), (1, .int p1), (2, .int p2), (3, .ref x2), (4, .ref x4), (5, .ref x6), (6, .int (D.1 23 1))]) (am_dec tmX11_join 20 rfl) (by decide) rfl ?_
    refine am_aload_n (am_dec tmX11_join 21 rfl) rfl rfl ?_
    refine am_getI (j := 1) hE (am_dec tmX11_join 22 rfl) h_x2 cf7 (by decide) rfl lf_X11_134 ?_
    refine am_iload (am_dec tmX11_join 23 rfl) rfl ?_
    refine am_icmp_lt (tgt := 60) (am_dec tmX11_join 24 rfl) (by decide) (fun c7 => ?_) (fun c7 => ?_)
    · rw [if_pos c7] at hf
      refine am_bipush (v := (-2 : Int32)) (am_dec tmX11_join 29 rfl) (by decide) ?_
      have hf := Sum.inr.inj (Option.some.inj hf)
      subst hf
      exact am_iret (am_dec tmX11_join 30 rfl) rfl (Nat.zero_le _) (Nat.zero_le _)
    · rw [if_neg c7] at hf
      refine am_aload (am_dec tmX11_join 25 rfl) rfl ?_
      refine am_getI (j := 1) hE (am_dec tmX11_join 26 rfl) h_x4 cf7 (by decide) rfl lf_X11_134 ?_
      refine am_iload (am_dec tmX11_join 27 rfl) rfl ?_
      refine am_icmp_ge (tgt := 63) (am_dec tmX11_join 28 rfl) (by decide) (fun c8 => ?_) (fun c8 => ?_)
      · rw [if_pos c8] at hf
        refine am_aload_n (am_dec tmX11_join 31 rfl) rfl rfl ?_
        refine am_aload (am_dec tmX11_join 32 rfl) rfl ?_
        refine am_iload (am_dec tmX11_join 33 rfl) rfl ?_
        refine am_aload_n (am_dec tmX11_join 34 rfl) rfl rfl ?_
        refine am_getR (j := 0) hE (am_dec tmX11_join 35 rfl) sh_16 cf11 (by decide) rfl lf_X11_10 rf_16_0 ?_
        refine am_getR (j := 5) hE (am_dec tmX11_join 36 rfl) sh_17 cf1 (by decide) rfl lf_X11_165 rf_17_5 ?_
        refine am_getI (j := 2) hE (am_dec tmX11_join 37 rfl) sh_23 cf5 (by decide) rfl lf_X11_380 ?_
        obtain ⟨x10, g9, hf⟩ := am_bd hf
        refine am_callV1 (As := [.ref x4, .int (D.1 23 1), .int (D.1 23 2)]) (st := []) hE (am_dec tmX11_join 38 rfl) ok_X7_bestJoin rfl lm_X11_383 in_X7_bestJoin se_X7_bestJoin h_x2 cf7 (c_X7_bestJoin hE h_x2 h_x4 g9) rfl (by decide) (Nat.le_of_ble_eq_true rfl) (Nat.zero_le _) (Nat.zero_le _) rfl ?_
        refine am_istore (lv' := [(0, .ref 16), (1, .int p1), (2, .int p2), (3, .ref x2), (4, .ref x4), (5, .ref x6), (6, .int (D.1 23 1)), (7, .int x10)]) (am_dec tmX11_join 39 rfl) (by decide) rfl ?_
        refine am_iload (am_dec tmX11_join 40 rfl) rfl ?_
        refine am_aload (am_dec tmX11_join 41 rfl) rfl ?_
        refine am_getI (j := 1) hE (am_dec tmX11_join 42 rfl) h_x4 cf7 (by decide) rfl lf_X11_134 ?_
        refine am_iadd (am_dec tmX11_join 43 rfl) ?_
        refine am_sipush (v := (600 : Int32)) (am_dec tmX11_join 44 rfl) (by decide) ?_
        refine am_icmp_le (tgt := 100) (am_dec tmX11_join 45 rfl) (by decide) (fun c11 => ?_) (fun c11 => ?_)
        · rw [if_pos c11] at hf
          refine am_aload (am_dec tmX11_join 48 rfl) rfl ?_
          refine am_aload_n (am_dec tmX11_join 49 rfl) rfl rfl ?_
          refine am_aload (am_dec tmX11_join 50 rfl) rfl ?_
          refine am_iload (am_dec tmX11_join 51 rfl) rfl ?_
          refine am_iload (am_dec tmX11_join 52 rfl) rfl ?_
          obtain ⟨x13, g12, hf⟩ := am_bd hf
          refine am_callV0 (As := [.ref x2, .ref x4, .int x10, .int (D.1 23 1)]) (st := []) hE (am_dec tmX11_join 53 rfl) ok_X7_joinOf rfl lm_X11_386 in_X7_joinOf se_X7_joinOf h_x6 cf7 (c_X7_joinOf hE h_x6 h_x2 h_x4 g12) rfl (by decide) (Nat.le_of_ble_eq_true rfl) (Nat.zero_le _) (Nat.zero_le _) rfl ?_
          refine am_aload_n (am_dec tmX11_join 54 rfl) rfl rfl ?_
          refine am_getR (j := 0) hE (am_dec tmX11_join 55 rfl) sh_16 cf11 (by decide) rfl lf_X11_10 rf_16_0 ?_
          obtain ⟨x15, g14, hf⟩ := am_bd hf
          refine am_callV1 (As := []) (st := []) hE (am_dec tmX11_join 56 rfl) ok_X1_takeSound rfl lm_X11_112 in_X1_takeSound se_X1_takeSound sh_17 cf1 (c_X1_takeSound hE g14) rfl (by decide) (Nat.le_of_ble_eq_true rfl) (Nat.zero_le _) (Nat.zero_le _) rfl ?_
          have hf := Sum.inr.inj (Option.some.inj hf)
          subst hf
          exact am_iret (am_dec tmX11_join 57 rfl) rfl (Nat.zero_le _) (Nat.zero_le _)
        · rw [if_neg c11] at hf
          refine am_bipush (v := (-2 : Int32)) (am_dec tmX11_join 46 rfl) (by decide) ?_
          have hf := Sum.inr.inj (Option.some.inj hf)
          subst hf
          exact am_iret (am_dec tmX11_join 47 rfl) rfl (Nat.zero_le _) (Nat.zero_le _)
      · rw [if_neg c8] at hf
        refine am_bipush (v := (-2 : Int32)) (am_dec tmX11_join 29 rfl) (by decide) ?_
        have hf := Sum.inr.inj (Option.some.inj hf)
        subst hf
        exact am_iret (am_dec tmX11_join 30 rfl) rfl (Nat.zero_le _) (Nat.zero_le _)
  · refine am_callV1 (w := .null) (As := []) (st := []) hE (am_dec tmX11_join 10 rfl) ok_X1_freeSound rfl lm_X11_101 in_X1_freeSound se_X1_freeSound sh_17 cf1 (c_X1_freeSound hE  g5) rfl (by decide) (Nat.le_of_ble_eq_true rfl) (Nat.zero_le _) (Nat.zero_le _) rfl ?_
    refine am_astoreN (lv' := [(0, .ref 16), (1, .int p1), (2, .int p2), (3, .ref x2), (4, .ref x4), (5, .null)]) (am_dec tmX11_join 11 rfl) (by decide) rfl ?_
    refine am_aloadN (am_dec tmX11_join 12 rfl) rfl ?_
    refine am_ifnonnullN (am_dec tmX11_join 13 rfl) ?_
    refine am_iconst (v := (-1 : Int32)) (am_dec tmX11_join 14 rfl) (by decide) ?_
    have hf := Sum.inr.inj (Option.some.inj hf)
    subst hf
    exact am_iret (am_dec tmX11_join 15 rfl) rfl (Nat.zero_le _) (Nat.zero_le _)
set_option maxRecDepth 100000 in
set_option maxHeartbeats 4000000 in
theorem t_X11_join {E : am_E} (hE : am_EH E) {p1 : Int32} {p2 : Int32} {D : am_D} {r : String × am_D}  (hf : f_X11_join p1 p2 D = some (.inl r)) : am_C E mX11_join 5 1 6 [.ref 16, .int p1, .int p2] am_G0 D (.inr r.1) am_G0 r.2 := by
  refine am_C_of (by decide +kernel) (Nat.le_of_ble_eq_true rfl) ?_
  change am_S E mX11_join 5 1 6 (.inr r.1) am_G0 r.2 0 0 0 [(0, .ref 16), (1, .int p1), (2, .int p2)] [] am_G0 D
  unfold f_X11_join at hf
  refine am_aload_n (am_dec tmX11_join 0 rfl) rfl rfl ?_
  refine am_iload_n (am_dec tmX11_join 1 rfl) rfl rfl ?_
  rcases am_btDT hf with ⟨g1, eD⟩ | ⟨x2, g1, hf⟩
  · rw [eD]
    exact am_callV_out (As := [.int p1]) (st := []) hE (am_dec tmX11_join 2 rfl) ok_X11_soundOf rfl lm_X11_130 in_X11_soundOf se_X11_soundOf sh_16 cf11 (t_X11_soundOf hE g1) rfl (by decide) (Nat.le_of_ble_eq_true rfl) (Nat.le_refl _) (Nat.le_refl _) rfl rfl
  · have h_x2 := k_X11_soundOf g1
    refine am_callV1 (As := [.int p1]) (st := []) hE (am_dec tmX11_join 2 rfl) ok_X11_soundOf rfl lm_X11_130 in_X11_soundOf se_X11_soundOf sh_16 cf11 (c_X11_soundOf hE g1) rfl (by decide) (Nat.le_of_ble_eq_true rfl) (Nat.zero_le _) (Nat.zero_le _) rfl ?_
    refine am_astore_n (lv' := [(0, .ref 16), (1, .int p1), (2, .int p2), (3, .ref x2)]) (am_dec tmX11_join 3 rfl) rfl (by decide) rfl ?_
    refine am_aload_n (am_dec tmX11_join 4 rfl) rfl rfl ?_
    refine am_iload_n (am_dec tmX11_join 5 rfl) rfl rfl ?_
    rcases am_btDT hf with ⟨g3, eD⟩ | ⟨x4, g3, hf⟩
    · rw [eD]
      exact am_callV_out (As := [.int p2]) (st := []) hE (am_dec tmX11_join 6 rfl) ok_X11_soundOf rfl lm_X11_130 in_X11_soundOf se_X11_soundOf sh_16 cf11 (t_X11_soundOf hE g3) rfl (by decide) (Nat.le_of_ble_eq_true rfl) (Nat.le_refl _) (Nat.le_refl _) rfl rfl
    · have h_x4 := k_X11_soundOf g3
      refine am_callV1 (As := [.int p2]) (st := []) hE (am_dec tmX11_join 6 rfl) ok_X11_soundOf rfl lm_X11_130 in_X11_soundOf se_X11_soundOf sh_16 cf11 (c_X11_soundOf hE g3) rfl (by decide) (Nat.le_of_ble_eq_true rfl) (Nat.zero_le _) (Nat.zero_le _) rfl ?_
      refine am_astore (lv' := [(0, .ref 16), (1, .int p1), (2, .int p2), (3, .ref x2), (4, .ref x4)]) (am_dec tmX11_join 7 rfl) (by decide) rfl ?_
      refine am_aload_n (am_dec tmX11_join 8 rfl) rfl rfl ?_
      refine am_getR (j := 0) hE (am_dec tmX11_join 9 rfl) sh_16 cf11 (by decide) rfl lf_X11_10 rf_16_0 ?_
      rcases am_bnd hf with ⟨x6, g5, hf⟩ | ⟨g5, hf⟩
      · have h_x6 := k_X1_freeSound g5
        refine am_callV1 (w := .ref x6) (As := []) (st := []) hE (am_dec tmX11_join 10 rfl) ok_X1_freeSound rfl lm_X11_101 in_X1_freeSound se_X1_freeSound sh_17 cf1 (c_X1_freeSound hE  g5) rfl (by decide) (Nat.le_of_ble_eq_true rfl) (Nat.zero_le _) (Nat.zero_le _) rfl ?_
        refine am_astore (lv' := [(0, .ref 16), (1, .int p1), (2, .int p2), (3, .ref x2), (4, .ref x4), (5, .ref x6)]) (am_dec tmX11_join 11 rfl) (by decide) rfl ?_
        refine am_aload (am_dec tmX11_join 12 rfl) rfl ?_
        refine am_ifnonnull (tgt := 29) (am_dec tmX11_join 13 rfl) (by decide) ?_
        refine am_aload_n (am_dec tmX11_join 16 rfl) rfl rfl ?_
        refine am_getR (j := 0) hE (am_dec tmX11_join 17 rfl) sh_16 cf11 (by decide) rfl lf_X11_10 rf_16_0 ?_
        refine am_getR (j := 5) hE (am_dec tmX11_join 18 rfl) sh_17 cf1 (by decide) rfl lf_X11_165 rf_17_5 ?_
        refine am_getI (j := 1) hE (am_dec tmX11_join 19 rfl) sh_23 cf5 (by decide) rfl lf_X11_373 ?_
        refine am_istore (lv' := [(0, .ref 16), (1, .int p1), (2, .int p2), (3, .ref x2), (4, .ref x4), (5, .ref x6), (6, .int (D.1 23 1))]) (am_dec tmX11_join 20 rfl) (by decide) rfl ?_
        refine am_aload_n (am_dec tmX11_join 21 rfl) rfl rfl ?_
        refine am_getI (j := 1) hE (am_dec tmX11_join 22 rfl) h_x2 cf7 (by decide) rfl lf_X11_134 ?_
        refine am_iload (am_dec tmX11_join 23 rfl) rfl ?_
        refine am_icmp_lt (tgt := 60) (am_dec tmX11_join 24 rfl) (by decide) (fun c7 => ?_) (fun c7 => ?_)
        · rw [if_pos c7] at hf
          refine am_bipush (v := (-2 : Int32)) (am_dec tmX11_join 29 rfl) (by decide) ?_
          cases hf
        · rw [if_neg c7] at hf
          refine am_aload (am_dec tmX11_join 25 rfl) rfl ?_
          refine am_getI (j := 1) hE (am_dec tmX11_join 26 rfl) h_x4 cf7 (by decide) rfl lf_X11_134 ?_
          refine am_iload (am_dec tmX11_join 27 rfl) rfl ?_
          refine am_icmp_ge (tgt := 63) (am_dec tmX11_join 28 rfl) (by decide) (fun c8 => ?_) (fun c8 => ?_)
          · rw [if_pos c8] at hf
            refine am_aload_n (am_dec tmX11_join 31 rfl) rfl rfl ?_
            refine am_aload (am_dec tmX11_join 32 rfl) rfl ?_
            refine am_iload (am_dec tmX11_join 33 rfl) rfl ?_
            refine am_aload_n (am_dec tmX11_join 34 rfl) rfl rfl ?_
            refine am_getR (j := 0) hE (am_dec tmX11_join 35 rfl) sh_16 cf11 (by decide) rfl lf_X11_10 rf_16_0 ?_
            refine am_getR (j := 5) hE (am_dec tmX11_join 36 rfl) sh_17 cf1 (by decide) rfl lf_X11_165 rf_17_5 ?_
            refine am_getI (j := 2) hE (am_dec tmX11_join 37 rfl) sh_23 cf5 (by decide) rfl lf_X11_380 ?_
            obtain ⟨x10, g9, hf⟩ := am_bd hf
            refine am_callV1 (As := [.ref x4, .int (D.1 23 1), .int (D.1 23 2)]) (st := []) hE (am_dec tmX11_join 38 rfl) ok_X7_bestJoin rfl lm_X11_383 in_X7_bestJoin se_X7_bestJoin h_x2 cf7 (c_X7_bestJoin hE h_x2 h_x4 g9) rfl (by decide) (Nat.le_of_ble_eq_true rfl) (Nat.zero_le _) (Nat.zero_le _) rfl ?_
            refine am_istore (lv' := [(0, .ref 16), (1, .int p1), (2, .int p2), (3, .ref x2), (4, .ref x4), (5, .ref x6), (6, .int (D.1 23 1)), (7, .int x10)]) (am_dec tmX11_join 39 rfl) (by decide) rfl ?_
            refine am_iload (am_dec tmX11_join 40 rfl) rfl ?_
            refine am_aload (am_dec tmX11_join 41 rfl) rfl ?_
            refine am_getI (j := 1) hE (am_dec tmX11_join 42 rfl) h_x4 cf7 (by decide) rfl lf_X11_134 ?_
            refine am_iadd (am_dec tmX11_join 43 rfl) ?_
            refine am_sipush (v := (600 : Int32)) (am_dec tmX11_join 44 rfl) (by decide) ?_
            refine am_icmp_le (tgt := 100) (am_dec tmX11_join 45 rfl) (by decide) (fun c11 => ?_) (fun c11 => ?_)
            · rw [if_pos c11] at hf
              refine am_aload (am_dec tmX11_join 48 rfl) rfl ?_
              refine am_aload_n (am_dec tmX11_join 49 rfl) rfl rfl ?_
              refine am_aload (am_dec tmX11_join 50 rfl) rfl ?_
              refine am_iload (am_dec tmX11_join 51 rfl) rfl ?_
              refine am_iload (am_dec tmX11_join 52 rfl) rfl ?_
              obtain ⟨x13, g12, hf⟩ := am_bd hf
              refine am_callV0 (As := [.ref x2, .ref x4, .int x10, .int (D.1 23 1)]) (st := []) hE (am_dec tmX11_join 53 rfl) ok_X7_joinOf rfl lm_X11_386 in_X7_joinOf se_X7_joinOf h_x6 cf7 (c_X7_joinOf hE h_x6 h_x2 h_x4 g12) rfl (by decide) (Nat.le_of_ble_eq_true rfl) (Nat.zero_le _) (Nat.zero_le _) rfl ?_
              refine am_aload_n (am_dec tmX11_join 54 rfl) rfl rfl ?_
              refine am_getR (j := 0) hE (am_dec tmX11_join 55 rfl) sh_16 cf11 (by decide) rfl lf_X11_10 rf_16_0 ?_
              obtain ⟨x15, g14, hf⟩ := am_bd hf
              refine am_callV1 (As := []) (st := []) hE (am_dec tmX11_join 56 rfl) ok_X1_takeSound rfl lm_X11_112 in_X1_takeSound se_X1_takeSound sh_17 cf1 (c_X1_takeSound hE g14) rfl (by decide) (Nat.le_of_ble_eq_true rfl) (Nat.zero_le _) (Nat.zero_le _) rfl ?_
              cases hf
            · rw [if_neg c11] at hf
              refine am_bipush (v := (-2 : Int32)) (am_dec tmX11_join 46 rfl) (by decide) ?_
              cases hf
          · rw [if_neg c8] at hf
            refine am_bipush (v := (-2 : Int32)) (am_dec tmX11_join 29 rfl) (by decide) ?_
            cases hf
      · refine am_callV1 (w := .null) (As := []) (st := []) hE (am_dec tmX11_join 10 rfl) ok_X1_freeSound rfl lm_X11_101 in_X1_freeSound se_X1_freeSound sh_17 cf1 (c_X1_freeSound hE  g5) rfl (by decide) (Nat.le_of_ble_eq_true rfl) (Nat.zero_le _) (Nat.zero_le _) rfl ?_
        refine am_astoreN (lv' := [(0, .ref 16), (1, .int p1), (2, .int p2), (3, .ref x2), (4, .ref x4), (5, .null)]) (am_dec tmX11_join 11 rfl) (by decide) rfl ?_
        refine am_aloadN (am_dec tmX11_join 12 rfl) rfl ?_
        refine am_ifnonnullN (am_dec tmX11_join 13 rfl) ?_
        refine am_iconst (v := (-1 : Int32)) (am_dec tmX11_join 14 rfl) (by decide) ?_
        cases hf
def f_X11_shift (p1 : Int32) (p2 : Int32) (p3 : Int32) (D : am_D) : Option ((String × am_D) ⊕ (Int32 × am_D)) :=
    am_btD (f_X11_soundOf p1 D) D fun x2 =>
    (f_X11_within p2 (1 : Int32) (9 : Int32)).bind fun x4 =>
    (if x4 = 0 then
    some ((0 : Int32))
    else
    (f_X11_within p3 (1 : Int32) (9 : Int32)).bind fun x8 =>
    if x8 = 0 then
    some ((0 : Int32))
    else
    some ((1 : Int32))).bind fun w10 =>
    am_btD (f_X11_need w10) D fun x12 =>
    (f_X11_cut ((D.1 x2 1) * p3) p2).bind fun x14 =>
    (f_X11_bounded x14 (1 : Int32) (1200 : Int32)).bind fun x16 =>
    if x16 < (D.1 23 0) then
    some (.inl ("java/lang/IllegalStateException", D))
    else
    if x16 ≤ (600 : Int32) then
    (f_X7_resampleOf 101 x2 x16 p2 p3 D).bind fun x20 =>
    (f_X9_clear 103 x20).bind fun x22 =>
    (f_X9_add 103 x16 (x22.1 x2 1) x22).bind fun x24 =>
    (f_X3_drawOut 71 101 103 23 x24).bind fun x26 =>
    some (.inr ((x26.1 71 6), x26))
    else
    some (.inl ("java/lang/IllegalStateException", D))
set_option maxRecDepth 100000 in
set_option maxHeartbeats 4000000 in
theorem c_X11_shift {E : am_E} (hE : am_EH E) {p1 : Int32} {p2 : Int32} {p3 : Int32} {D : am_D} {r : (Int32 × am_D)}  (hf : f_X11_shift p1 p2 p3 D = some (.inr r)) : am_C E mX11_shift 6 0 0 [.ref 16, .int p1, .int p2, .int p3] am_G0 D (.inl (some (.int r.1))) am_G0 r.2 := by
  refine am_C_of (by decide +kernel) (Nat.le_of_ble_eq_true rfl) ?_
  change am_S E mX11_shift 6 0 0 (.inl (some (.int r.1))) am_G0 r.2 0 0 0 [(0, .ref 16), (1, .int p1), (2, .int p2), (3, .int p3)] [] am_G0 D
  unfold f_X11_shift at hf
  refine am_aload_n (am_dec tmX11_shift_0 0 rfl) rfl rfl ?_
  refine am_iload_n (am_dec tmX11_shift_0 1 rfl) rfl rfl ?_
  obtain ⟨x2, g1, hf⟩ := am_btDR hf
  have h_x2 := k_X11_soundOf g1
  refine am_callV1 (As := [.int p1]) (st := []) hE (am_dec tmX11_shift_0 2 rfl) ok_X11_soundOf rfl lm_X11_130 in_X11_soundOf se_X11_soundOf sh_16 cf11 (c_X11_soundOf hE g1) rfl (by decide) (Nat.le_of_ble_eq_true rfl) (Nat.zero_le _) (Nat.zero_le _) rfl ?_
  refine am_astore (lv' := [(0, .ref 16), (1, .int p1), (2, .int p2), (3, .int p3), (4, .ref x2)]) (am_dec tmX11_shift_0 3 rfl) (by decide) rfl ?_
  refine am_iload_n (am_dec tmX11_shift_0 4 rfl) rfl rfl ?_
  refine am_iconst (v := (1 : Int32)) (am_dec tmX11_shift_0 5 rfl) (by decide) ?_
  refine am_bipush (v := (9 : Int32)) (am_dec tmX11_shift_0 6 rfl) (by decide) ?_
  obtain ⟨x4, g3, hf⟩ := am_bd hf
  refine am_callS1 (As := [.int p2, .int (1 : Int32), .int (9 : Int32)]) (st := []) (am_dec tmX11_shift_0 7 rfl) ok_X11_within rfl lm_X11_143 st_X11_within (c_X11_within hE g3) rfl (by decide) (Nat.le_of_ble_eq_true rfl) (Nat.zero_le _) (Nat.zero_le _) rfl ?_
  obtain ⟨w10, g27, hf⟩ := am_bd hf
  have key6 : am_S E mX11_shift 6 0 0 (.inl (some (.int r.1))) am_G0 r.2 0 0 32 [(0, .ref 16), (2, .int p2), (3, .int p3), (4, .ref x2)] [.int w10] am_G0 D := by
    obtain ⟨x12, g11, hf⟩ := am_btDR hf
    refine am_callS0 (As := [.int w10]) (st := []) (am_dec tmX11_shift_0 17 rfl) ok_X11_need rfl lm_X11_94 st_X11_need (c_X11_need hE g11) rfl (by decide) (Nat.le_of_ble_eq_true rfl) (Nat.zero_le _) (Nat.zero_le _) rfl ?_
    refine am_aload (am_dec tmX11_shift_0 18 rfl) rfl ?_
    refine am_getI (j := 1) hE (am_dec tmX11_shift_0 19 rfl) h_x2 cf7 (by decide) rfl lf_X11_134 ?_
    refine am_iload_n (am_dec tmX11_shift_0 20 rfl) rfl rfl ?_
    refine am_imul (am_dec tmX11_shift_0 21 rfl) ?_
    refine am_iload_n (am_dec tmX11_shift_0 22 rfl) rfl rfl ?_
    obtain ⟨x14, g13, hf⟩ := am_bd hf
    refine am_callS1 (As := [.int ((D.1 x2 1) * p3), .int p2]) (st := []) (am_dec tmX11_shift_0 23 rfl) ok_X11_cut rfl lm_X11_336 st_X11_cut (c_X11_cut hE g13) rfl (by decide) (Nat.le_of_ble_eq_true rfl) (Nat.zero_le _) (Nat.zero_le _) rfl ?_
    refine am_iconst (v := (1 : Int32)) (am_dec tmX11_shift_0 24 rfl) (by decide) ?_
    refine am_sipush (v := (1200 : Int32)) (am_dec tmX11_shift_0 25 rfl) (by decide) ?_
    obtain ⟨x16, g15, hf⟩ := am_bd hf
    refine am_callS1 (As := [.int x14, .int (1 : Int32), .int (1200 : Int32)]) (st := []) (am_dec tmX11_shift_0 26 rfl) ok_X11_bounded rfl lm_X11_339 st_X11_bounded (c_X11_bounded hE g15) rfl (by decide) (Nat.le_of_ble_eq_true rfl) (Nat.zero_le _) (Nat.zero_le _) rfl ?_
    refine am_istore (lv' := [(0, .ref 16), (2, .int p2), (3, .int p3), (4, .ref x2), (5, .int x16)]) (am_dec tmX11_shift_0 27 rfl) (by decide) rfl ?_
    refine am_iload (am_dec tmX11_shift_0 28 rfl) rfl ?_
    refine am_aload_n (am_dec tmX11_shift_0 29 rfl) rfl rfl ?_
    refine am_getR (j := 0) hE (am_dec tmX11_shift_0 30 rfl) sh_16 cf11 (by decide) rfl lf_X11_10 rf_16_0 ?_
    refine am_getR (j := 5) hE (am_dec tmX11_shift_0 31 rfl) sh_17 cf1 (by decide) rfl lf_X11_165 rf_17_5 ?_
    refine am_getI (j := 0) hE (am_dec tmX11_shift_0 32 rfl) sh_23 cf5 (by decide) rfl lf_X11_169 ?_
    refine am_icmp_lt (tgt := 78) (am_dec tmX11_shift_0 33 rfl) (by decide) (fun c17 => ?_) (fun c17 => ?_)
    · rw [if_pos c17] at hf
      cases hf
    · rw [if_neg c17] at hf
      refine am_iload (am_dec tmX11_shift_0 34 rfl) rfl ?_
      refine am_sipush (v := (600 : Int32)) (am_dec tmX11_shift_0 35 rfl) (by decide) ?_
      refine am_icmp_le (tgt := 86) (am_dec tmX11_shift_0 36 rfl) (by decide) (fun c18 => ?_) (fun c18 => ?_)
      · rw [if_pos c18] at hf
        refine am_aload_n (am_dec tmX11_shift_0 41 rfl) rfl rfl ?_
        refine am_getR (j := 7) hE (am_dec tmX11_shift_0 42 rfl) sh_16 cf11 (by decide) rfl lf_X11_48 rf_16_7 ?_
        refine am_aload (am_dec tmX11_shift_0 43 rfl) rfl ?_
        refine am_iload (am_dec tmX11_shift_0 44 rfl) rfl ?_
        refine am_iload_n (am_dec tmX11_shift_0 45 rfl) rfl rfl ?_
        refine am_iload_n (am_dec tmX11_shift_0 46 rfl) rfl rfl ?_
        obtain ⟨x20, g19, hf⟩ := am_bd hf
        refine am_callV0 (As := [.ref x2, .int x16, .int p2, .int p3]) (st := []) hE (am_dec tmX11_shift_0 47 rfl) ok_X7_resampleOf rfl lm_X11_390 in_X7_resampleOf se_X7_resampleOf sh_101 cf7 (c_X7_resampleOf hE sh_101 h_x2 g19) rfl (by decide) (Nat.le_of_ble_eq_true rfl) (Nat.zero_le _) (Nat.zero_le _) rfl ?_
        refine am_aload_n (am_dec tmX11_shift_0 48 rfl) rfl rfl ?_
        refine am_getR (j := 8) hE (am_dec tmX11_shift_0 49 rfl) sh_16 cf11 (by decide) rfl lf_X11_55 rf_16_8 ?_
        obtain ⟨x22, g21, hf⟩ := am_bd hf
        refine am_callV0 (As := []) (st := []) hE (am_dec tmX11_shift_0 50 rfl) ok_X9_clear rfl lm_X11_333 in_X9_clear se_X9_clear sh_103 cf9 (c_X9_clear hE sh_103 g21) rfl (by decide) (Nat.le_of_ble_eq_true rfl) (Nat.zero_le _) (Nat.zero_le _) rfl ?_
        refine am_aload_n (am_dec tmX11_shift_0 51 rfl) rfl rfl ?_
        refine am_getR (j := 8) hE (am_dec tmX11_shift_0 52 rfl) sh_16 cf11 (by decide) rfl lf_X11_55 rf_16_8 ?_
        refine am_iload (am_dec tmX11_shift_0 53 rfl) rfl ?_
        refine am_aload (am_dec tmX11_shift_0 54 rfl) rfl ?_
        refine am_getI (j := 1) hE (am_dec tmX11_shift_0 55 rfl) h_x2 cf7 (by decide) rfl lf_X11_134 ?_
        obtain ⟨x24, g23, hf⟩ := am_bd hf
        refine am_callV0 (As := [.int x16, .int (x22.1 x2 1)]) (st := []) hE (am_dec tmX11_shift_0 56 rfl) ok_X9_add rfl lm_X11_343 in_X9_add se_X9_add sh_103 cf9 (c_X9_add hE sh_103 g23) rfl (by decide) (Nat.le_of_ble_eq_true rfl) (Nat.zero_le _) (Nat.zero_le _) rfl ?_
        refine am_aload_n (am_dec tmX11_shift_0 57 rfl) rfl rfl ?_
        refine am_getR (j := 4) hE (am_dec tmX11_shift_0 58 rfl) sh_16 cf11 (by decide) rfl lf_X11_33 rf_16_4 ?_
        refine am_aload_n (am_dec tmX11_shift_0 59 rfl) rfl rfl ?_
        refine am_getR (j := 7) hE (am_dec tmX11_shift_1 0 rfl) sh_16 cf11 (by decide) rfl lf_X11_48 rf_16_7 ?_
        refine am_aload_n (am_dec tmX11_shift_1 1 rfl) rfl rfl ?_
        refine am_getR (j := 8) hE (am_dec tmX11_shift_1 2 rfl) sh_16 cf11 (by decide) rfl lf_X11_55 rf_16_8 ?_
        refine am_aload_n (am_dec tmX11_shift_1 3 rfl) rfl rfl ?_
        refine am_getR (j := 0) hE (am_dec tmX11_shift_1 4 rfl) sh_16 cf11 (by decide) rfl lf_X11_10 rf_16_0 ?_
        refine am_getR (j := 5) hE (am_dec tmX11_shift_1 5 rfl) sh_17 cf1 (by decide) rfl lf_X11_165 rf_17_5 ?_
        obtain ⟨x26, g25, hf⟩ := am_bd hf
        refine am_callV0 (As := [.ref 101, .ref 103, .ref 23]) (st := []) hE (am_dec tmX11_shift_1 6 rfl) ok_X3_drawOut rfl lm_X11_180 in_X3_drawOut se_X3_drawOut sh_71 cf3 (c_X3_drawOut hE sh_71 sh_101 sh_103 sh_23 g25) rfl (by decide) (Nat.le_of_ble_eq_true rfl) (Nat.zero_le _) (Nat.zero_le _) rfl ?_
        refine am_aload_n (am_dec tmX11_shift_1 7 rfl) rfl rfl ?_
        refine am_getR (j := 4) hE (am_dec tmX11_shift_1 8 rfl) sh_16 cf11 (by decide) rfl lf_X11_33 rf_16_4 ?_
        refine am_getI (j := 6) hE (am_dec tmX11_shift_1 9 rfl) sh_71 cf3 (by decide) rfl lf_X11_183 ?_
        have hf := Sum.inr.inj (Option.some.inj hf)
        subst hf
        exact am_iret (am_dec tmX11_shift_1 10 rfl) rfl (Nat.zero_le _) (Nat.zero_le _)
      · rw [if_neg c18] at hf
        cases hf
  replace hf := g27
  refine am_if_eq (tgt := 31) (am_dec tmX11_shift_0 8 rfl) (by decide) (fun c5 => ?_) (fun c5 => ?_)
  · rw [if_pos c5] at hf
    refine am_iconst (v := (0 : Int32)) (am_dec tmX11_shift_0 16 rfl) (by decide) ?_
    have hf := Option.some.inj hf
    subst hf
    exact am_pick [0, 2, 3, 4] rfl key6
  · rw [if_neg c5] at hf
    refine am_iload_n (am_dec tmX11_shift_0 9 rfl) rfl rfl ?_
    refine am_iconst (v := (1 : Int32)) (am_dec tmX11_shift_0 10 rfl) (by decide) ?_
    refine am_bipush (v := (9 : Int32)) (am_dec tmX11_shift_0 11 rfl) (by decide) ?_
    obtain ⟨x8, g7, hf⟩ := am_bd hf
    refine am_callS1 (As := [.int p3, .int (1 : Int32), .int (9 : Int32)]) (st := []) (am_dec tmX11_shift_0 12 rfl) ok_X11_within rfl lm_X11_143 st_X11_within (c_X11_within hE g7) rfl (by decide) (Nat.le_of_ble_eq_true rfl) (Nat.zero_le _) (Nat.zero_le _) rfl ?_
    refine am_if_eq (tgt := 31) (am_dec tmX11_shift_0 13 rfl) (by decide) (fun c9 => ?_) (fun c9 => ?_)
    · rw [if_pos c9] at hf
      refine am_iconst (v := (0 : Int32)) (am_dec tmX11_shift_0 16 rfl) (by decide) ?_
      have hf := Option.some.inj hf
      subst hf
      exact am_pick [0, 2, 3, 4] rfl key6
    · rw [if_neg c9] at hf
      refine am_iconst (v := (1 : Int32)) (am_dec tmX11_shift_0 14 rfl) (by decide) ?_
      refine am_goto (tgt := 32) (am_dec tmX11_shift_0 15 rfl) (by decide) ?_
      have hf := Option.some.inj hf
      subst hf
      exact am_pick [0, 2, 3, 4] rfl key6
set_option maxRecDepth 100000 in
set_option maxHeartbeats 4000000 in
theorem t_X11_shift {E : am_E} (hE : am_EH E) {p1 : Int32} {p2 : Int32} {p3 : Int32} {D : am_D} {r : String × am_D}  (hf : f_X11_shift p1 p2 p3 D = some (.inl r)) : am_C E mX11_shift 6 1 6 [.ref 16, .int p1, .int p2, .int p3] am_G0 D (.inr r.1) am_G0 r.2 := by
  refine am_C_of (by decide +kernel) (Nat.le_of_ble_eq_true rfl) ?_
  change am_S E mX11_shift 6 1 6 (.inr r.1) am_G0 r.2 0 0 0 [(0, .ref 16), (1, .int p1), (2, .int p2), (3, .int p3)] [] am_G0 D
  unfold f_X11_shift at hf
  refine am_aload_n (am_dec tmX11_shift_0 0 rfl) rfl rfl ?_
  refine am_iload_n (am_dec tmX11_shift_0 1 rfl) rfl rfl ?_
  rcases am_btDT hf with ⟨g1, eD⟩ | ⟨x2, g1, hf⟩
  · rw [eD]
    exact am_callV_out (As := [.int p1]) (st := []) hE (am_dec tmX11_shift_0 2 rfl) ok_X11_soundOf rfl lm_X11_130 in_X11_soundOf se_X11_soundOf sh_16 cf11 (t_X11_soundOf hE g1) rfl (by decide) (Nat.le_of_ble_eq_true rfl) (Nat.le_refl _) (Nat.le_refl _) rfl rfl
  · have h_x2 := k_X11_soundOf g1
    refine am_callV1 (As := [.int p1]) (st := []) hE (am_dec tmX11_shift_0 2 rfl) ok_X11_soundOf rfl lm_X11_130 in_X11_soundOf se_X11_soundOf sh_16 cf11 (c_X11_soundOf hE g1) rfl (by decide) (Nat.le_of_ble_eq_true rfl) (Nat.zero_le _) (Nat.zero_le _) rfl ?_
    refine am_astore (lv' := [(0, .ref 16), (1, .int p1), (2, .int p2), (3, .int p3), (4, .ref x2)]) (am_dec tmX11_shift_0 3 rfl) (by decide) rfl ?_
    refine am_iload_n (am_dec tmX11_shift_0 4 rfl) rfl rfl ?_
    refine am_iconst (v := (1 : Int32)) (am_dec tmX11_shift_0 5 rfl) (by decide) ?_
    refine am_bipush (v := (9 : Int32)) (am_dec tmX11_shift_0 6 rfl) (by decide) ?_
    obtain ⟨x4, g3, hf⟩ := am_bd hf
    refine am_callS1 (As := [.int p2, .int (1 : Int32), .int (9 : Int32)]) (st := []) (am_dec tmX11_shift_0 7 rfl) ok_X11_within rfl lm_X11_143 st_X11_within (c_X11_within hE g3) rfl (by decide) (Nat.le_of_ble_eq_true rfl) (Nat.zero_le _) (Nat.zero_le _) rfl ?_
    obtain ⟨w10, g27, hf⟩ := am_bd hf
    have key6 : am_S E mX11_shift 6 1 6 (.inr r.1) am_G0 r.2 0 0 32 [(0, .ref 16), (2, .int p2), (3, .int p3), (4, .ref x2)] [.int w10] am_G0 D := by
      rcases am_btDT hf with ⟨g11, eD⟩ | ⟨x12, g11, hf⟩
      · rw [eD]
        exact am_callS_out (As := [.int w10]) (st := []) (am_dec tmX11_shift_0 17 rfl) ok_X11_need rfl lm_X11_94 st_X11_need (t_X11_need hE g11) rfl (by decide) (Nat.le_of_ble_eq_true rfl) (Nat.le_refl _) (Nat.le_refl _) rfl rfl
      · refine am_callS0 (As := [.int w10]) (st := []) (am_dec tmX11_shift_0 17 rfl) ok_X11_need rfl lm_X11_94 st_X11_need (c_X11_need hE g11) rfl (by decide) (Nat.le_of_ble_eq_true rfl) (Nat.zero_le _) (Nat.zero_le _) rfl ?_
        refine am_aload (am_dec tmX11_shift_0 18 rfl) rfl ?_
        refine am_getI (j := 1) hE (am_dec tmX11_shift_0 19 rfl) h_x2 cf7 (by decide) rfl lf_X11_134 ?_
        refine am_iload_n (am_dec tmX11_shift_0 20 rfl) rfl rfl ?_
        refine am_imul (am_dec tmX11_shift_0 21 rfl) ?_
        refine am_iload_n (am_dec tmX11_shift_0 22 rfl) rfl rfl ?_
        obtain ⟨x14, g13, hf⟩ := am_bd hf
        refine am_callS1 (As := [.int ((D.1 x2 1) * p3), .int p2]) (st := []) (am_dec tmX11_shift_0 23 rfl) ok_X11_cut rfl lm_X11_336 st_X11_cut (c_X11_cut hE g13) rfl (by decide) (Nat.le_of_ble_eq_true rfl) (Nat.zero_le _) (Nat.zero_le _) rfl ?_
        refine am_iconst (v := (1 : Int32)) (am_dec tmX11_shift_0 24 rfl) (by decide) ?_
        refine am_sipush (v := (1200 : Int32)) (am_dec tmX11_shift_0 25 rfl) (by decide) ?_
        obtain ⟨x16, g15, hf⟩ := am_bd hf
        refine am_callS1 (As := [.int x14, .int (1 : Int32), .int (1200 : Int32)]) (st := []) (am_dec tmX11_shift_0 26 rfl) ok_X11_bounded rfl lm_X11_339 st_X11_bounded (c_X11_bounded hE g15) rfl (by decide) (Nat.le_of_ble_eq_true rfl) (Nat.zero_le _) (Nat.zero_le _) rfl ?_
        refine am_istore (lv' := [(0, .ref 16), (2, .int p2), (3, .int p3), (4, .ref x2), (5, .int x16)]) (am_dec tmX11_shift_0 27 rfl) (by decide) rfl ?_
        refine am_iload (am_dec tmX11_shift_0 28 rfl) rfl ?_
        refine am_aload_n (am_dec tmX11_shift_0 29 rfl) rfl rfl ?_
        refine am_getR (j := 0) hE (am_dec tmX11_shift_0 30 rfl) sh_16 cf11 (by decide) rfl lf_X11_10 rf_16_0 ?_
        refine am_getR (j := 5) hE (am_dec tmX11_shift_0 31 rfl) sh_17 cf1 (by decide) rfl lf_X11_165 rf_17_5 ?_
        refine am_getI (j := 0) hE (am_dec tmX11_shift_0 32 rfl) sh_23 cf5 (by decide) rfl lf_X11_169 ?_
        refine am_icmp_lt (tgt := 78) (am_dec tmX11_shift_0 33 rfl) (by decide) (fun c17 => ?_) (fun c17 => ?_)
        · rw [if_pos c17] at hf
          have hf := Sum.inl.inj (Option.some.inj hf)
          subst hf
          exact am_throw (cls := "java/lang/IllegalStateException") hE (names := ["java/lang/RuntimeException", "java/lang/Exception"]) (am_dec tmX11_shift_0 37 rfl) (am_dec tmX11_shift_0 38 rfl) (am_dec tmX11_shift_0 39 rfl) (am_dec tmX11_shift_0 40 rfl) (by decide +kernel) (by decide +kernel) lcl_X11_302 lin_IllegalStateException ht_X11_304 rfl (Nat.le_of_ble_eq_true rfl) (Nat.le_refl _) (Nat.le_refl _) rfl rfl
        · rw [if_neg c17] at hf
          refine am_iload (am_dec tmX11_shift_0 34 rfl) rfl ?_
          refine am_sipush (v := (600 : Int32)) (am_dec tmX11_shift_0 35 rfl) (by decide) ?_
          refine am_icmp_le (tgt := 86) (am_dec tmX11_shift_0 36 rfl) (by decide) (fun c18 => ?_) (fun c18 => ?_)
          · rw [if_pos c18] at hf
            refine am_aload_n (am_dec tmX11_shift_0 41 rfl) rfl rfl ?_
            refine am_getR (j := 7) hE (am_dec tmX11_shift_0 42 rfl) sh_16 cf11 (by decide) rfl lf_X11_48 rf_16_7 ?_
            refine am_aload (am_dec tmX11_shift_0 43 rfl) rfl ?_
            refine am_iload (am_dec tmX11_shift_0 44 rfl) rfl ?_
            refine am_iload_n (am_dec tmX11_shift_0 45 rfl) rfl rfl ?_
            refine am_iload_n (am_dec tmX11_shift_0 46 rfl) rfl rfl ?_
            obtain ⟨x20, g19, hf⟩ := am_bd hf
            refine am_callV0 (As := [.ref x2, .int x16, .int p2, .int p3]) (st := []) hE (am_dec tmX11_shift_0 47 rfl) ok_X7_resampleOf rfl lm_X11_390 in_X7_resampleOf se_X7_resampleOf sh_101 cf7 (c_X7_resampleOf hE sh_101 h_x2 g19) rfl (by decide) (Nat.le_of_ble_eq_true rfl) (Nat.zero_le _) (Nat.zero_le _) rfl ?_
            refine am_aload_n (am_dec tmX11_shift_0 48 rfl) rfl rfl ?_
            refine am_getR (j := 8) hE (am_dec tmX11_shift_0 49 rfl) sh_16 cf11 (by decide) rfl lf_X11_55 rf_16_8 ?_
            obtain ⟨x22, g21, hf⟩ := am_bd hf
            refine am_callV0 (As := []) (st := []) hE (am_dec tmX11_shift_0 50 rfl) ok_X9_clear rfl lm_X11_333 in_X9_clear se_X9_clear sh_103 cf9 (c_X9_clear hE sh_103 g21) rfl (by decide) (Nat.le_of_ble_eq_true rfl) (Nat.zero_le _) (Nat.zero_le _) rfl ?_
            refine am_aload_n (am_dec tmX11_shift_0 51 rfl) rfl rfl ?_
            refine am_getR (j := 8) hE (am_dec tmX11_shift_0 52 rfl) sh_16 cf11 (by decide) rfl lf_X11_55 rf_16_8 ?_
            refine am_iload (am_dec tmX11_shift_0 53 rfl) rfl ?_
            refine am_aload (am_dec tmX11_shift_0 54 rfl) rfl ?_
            refine am_getI (j := 1) hE (am_dec tmX11_shift_0 55 rfl) h_x2 cf7 (by decide) rfl lf_X11_134 ?_
            obtain ⟨x24, g23, hf⟩ := am_bd hf
            refine am_callV0 (As := [.int x16, .int (x22.1 x2 1)]) (st := []) hE (am_dec tmX11_shift_0 56 rfl) ok_X9_add rfl lm_X11_343 in_X9_add se_X9_add sh_103 cf9 (c_X9_add hE sh_103 g23) rfl (by decide) (Nat.le_of_ble_eq_true rfl) (Nat.zero_le _) (Nat.zero_le _) rfl ?_
            refine am_aload_n (am_dec tmX11_shift_0 57 rfl) rfl rfl ?_
            refine am_getR (j := 4) hE (am_dec tmX11_shift_0 58 rfl) sh_16 cf11 (by decide) rfl lf_X11_33 rf_16_4 ?_
            refine am_aload_n (am_dec tmX11_shift_0 59 rfl) rfl rfl ?_
            refine am_getR (j := 7) hE (am_dec tmX11_shift_1 0 rfl) sh_16 cf11 (by decide) rfl lf_X11_48 rf_16_7 ?_
            refine am_aload_n (am_dec tmX11_shift_1 1 rfl) rfl rfl ?_
            refine am_getR (j := 8) hE (am_dec tmX11_shift_1 2 rfl) sh_16 cf11 (by decide) rfl lf_X11_55 rf_16_8 ?_
            refine am_aload_n (am_dec tmX11_shift_1 3 rfl) rfl rfl ?_
            refine am_getR (j := 0) hE (am_dec tmX11_shift_1 4 rfl) sh_16 cf11 (by decide) rfl lf_X11_10 rf_16_0 ?_
            refine am_getR (j := 5) hE (am_dec tmX11_shift_1 5 rfl) sh_17 cf1 (by decide) rfl lf_X11_165 rf_17_5 ?_
            obtain ⟨x26, g25, hf⟩ := am_bd hf
            refine am_callV0 (As := [.ref 101, .ref 103, .ref 23]) (st := []) hE (am_dec tmX11_shift_1 6 rfl) ok_X3_drawOut rfl lm_X11_180 in_X3_drawOut se_X3_drawOut sh_71 cf3 (c_X3_drawOut hE sh_71 sh_101 sh_103 sh_23 g25) rfl (by decide) (Nat.le_of_ble_eq_true rfl) (Nat.zero_le _) (Nat.zero_le _) rfl ?_
            refine am_aload_n (am_dec tmX11_shift_1 7 rfl) rfl rfl ?_
            refine am_getR (j := 4) hE (am_dec tmX11_shift_1 8 rfl) sh_16 cf11 (by decide) rfl lf_X11_33 rf_16_4 ?_
            refine am_getI (j := 6) hE (am_dec tmX11_shift_1 9 rfl) sh_71 cf3 (by decide) rfl lf_X11_183 ?_
            cases hf
          · rw [if_neg c18] at hf
            have hf := Sum.inl.inj (Option.some.inj hf)
            subst hf
            exact am_throw (cls := "java/lang/IllegalStateException") hE (names := ["java/lang/RuntimeException", "java/lang/Exception"]) (am_dec tmX11_shift_0 37 rfl) (am_dec tmX11_shift_0 38 rfl) (am_dec tmX11_shift_0 39 rfl) (am_dec tmX11_shift_0 40 rfl) (by decide +kernel) (by decide +kernel) lcl_X11_302 lin_IllegalStateException ht_X11_304 rfl (Nat.le_of_ble_eq_true rfl) (Nat.le_refl _) (Nat.le_refl _) rfl rfl
    replace hf := g27
    refine am_if_eq (tgt := 31) (am_dec tmX11_shift_0 8 rfl) (by decide) (fun c5 => ?_) (fun c5 => ?_)
    · rw [if_pos c5] at hf
      refine am_iconst (v := (0 : Int32)) (am_dec tmX11_shift_0 16 rfl) (by decide) ?_
      have hf := Option.some.inj hf
      subst hf
      exact am_pick [0, 2, 3, 4] rfl key6
    · rw [if_neg c5] at hf
      refine am_iload_n (am_dec tmX11_shift_0 9 rfl) rfl rfl ?_
      refine am_iconst (v := (1 : Int32)) (am_dec tmX11_shift_0 10 rfl) (by decide) ?_
      refine am_bipush (v := (9 : Int32)) (am_dec tmX11_shift_0 11 rfl) (by decide) ?_
      obtain ⟨x8, g7, hf⟩ := am_bd hf
      refine am_callS1 (As := [.int p3, .int (1 : Int32), .int (9 : Int32)]) (st := []) (am_dec tmX11_shift_0 12 rfl) ok_X11_within rfl lm_X11_143 st_X11_within (c_X11_within hE g7) rfl (by decide) (Nat.le_of_ble_eq_true rfl) (Nat.zero_le _) (Nat.zero_le _) rfl ?_
      refine am_if_eq (tgt := 31) (am_dec tmX11_shift_0 13 rfl) (by decide) (fun c9 => ?_) (fun c9 => ?_)
      · rw [if_pos c9] at hf
        refine am_iconst (v := (0 : Int32)) (am_dec tmX11_shift_0 16 rfl) (by decide) ?_
        have hf := Option.some.inj hf
        subst hf
        exact am_pick [0, 2, 3, 4] rfl key6
      · rw [if_neg c9] at hf
        refine am_iconst (v := (1 : Int32)) (am_dec tmX11_shift_0 14 rfl) (by decide) ?_
        refine am_goto (tgt := 32) (am_dec tmX11_shift_0 15 rfl) (by decide) ?_
        have hf := Option.some.inj hf
        subst hf
        exact am_pick [0, 2, 3, 4] rfl key6
def f_X11_colour_L41 (q2 : Int32) (q3 : Nat) (q4 : Int32) (D : am_D) : Nat → Int32 → Int32 → Option (Int32)
  | 0, _, _ => none
  | n + 1, v5, v6 =>
    if q4 ≤ v6 then
    some (v5)
    else
    (f_X7_loudest q3 v6 q2 D).bind fun x9 =>
    (f_X7_loudest 74 v6 q2 D).bind fun x11 =>
    (f_X11_far x9 x11).bind fun x13 =>
    f_X11_colour_L41 q2 q3 q4 D n (v5 + x13) (v6 + q2)
def f_X11_colour (p1 : Int32) (p2 : Int32) (D : am_D) : Option (String ⊕ Int32) :=
    am_bt (f_X11_soundOf p1 D) fun x2 =>
    (f_X11_within p2 (4 : Int32) (60 : Int32)).bind fun x4 =>
    am_bt (f_X11_need x4) fun x6 =>
    (f_X11_colour_L41 p2 x2 (am_mx (D.1 x2 1) (D.1 74 1)) D am_fu (0 : Int32) (0 : Int32)).bind fun e14 =>
    some (.inr e14)
set_option maxRecDepth 100000 in
set_option maxHeartbeats 4000000 in
theorem l_X11_colour_L41 {E : am_E} (hE : am_EH E) {d mc ms : Nat} {o : am_O} {G2 : am_G} {D2 : am_D} (hdp : 3 ≤ d) {q2 : Int32} {q3 : Nat} {q4 : Int32} {D : am_D} (h_q3 : am_sh am_G0 q3 = some (7, 2)) : ∀ (n : Nat) (v5 : Int32) (v6 : Int32) (ex0 : Int32), f_X11_colour_L41 q2 q3 q4 D n v5 v6 = some ex0 → (∀ ex : Int32, ex0 = ex → am_S E mX11_colour d mc ms o G2 D2 0 0 85 [(5, .int ex)] [] am_G0 D) → am_S E mX11_colour d mc ms o G2 D2 0 0 41 [(0, .ref 16), (2, .int q2), (3, .ref q3), (4, .int q4), (5, .int v5), (6, .int v6)] [] am_G0 D
  | 0, _, _, _, hf, _ => by
    unfold f_X11_colour_L41 at hf
    cases hf
  | n + 1, v5, v6, ex0, hf, hk0 => by
    unfold f_X11_colour_L41 at hf
    refine am_iload (am_dec tmX11_colour 21 rfl) rfl ?_
    refine am_iload (am_dec tmX11_colour 22 rfl) rfl ?_
    refine am_icmp_ge (tgt := 85) (am_dec tmX11_colour 23 rfl) (by decide) (fun c7 => ?_) (fun c7 => ?_)
    · rw [if_pos c7] at hf
      have hf := Option.some.inj hf
      subst hf
      exact am_pick [4] rfl (hk0 _ rfl)
    · rw [if_neg c7] at hf
      refine am_iload (am_dec tmX11_colour 24 rfl) rfl ?_
      refine am_aload_n (am_dec tmX11_colour 25 rfl) rfl rfl ?_
      refine am_iload (am_dec tmX11_colour 26 rfl) rfl ?_
      refine am_iload_n (am_dec tmX11_colour 27 rfl) rfl rfl ?_
      obtain ⟨x9, g8, hf⟩ := am_bd hf
      refine am_callV1 (As := [.int v6, .int q2]) (st := [.int v5]) hE (am_dec tmX11_colour 28 rfl) ok_X7_loudest rfl lm_X11_398 in_X7_loudest se_X7_loudest h_q3 cf7 (c_X7_loudest hE h_q3 g8) rfl (Nat.lt_of_lt_of_le (by decide) hdp) (Nat.le_of_ble_eq_true rfl) (Nat.zero_le _) (Nat.zero_le _) rfl ?_
      refine am_aload_n (am_dec tmX11_colour 29 rfl) rfl rfl ?_
      refine am_getR (j := 4) hE (am_dec tmX11_colour 30 rfl) sh_16 cf11 (by decide) rfl lf_X11_33 rf_16_4 ?_
      refine am_getR (j := 1) hE (am_dec tmX11_colour 31 rfl) sh_71 cf3 (by decide) rfl lf_X11_197 rf_71_1 ?_
      refine am_iload (am_dec tmX11_colour 32 rfl) rfl ?_
      refine am_iload_n (am_dec tmX11_colour 33 rfl) rfl rfl ?_
      obtain ⟨x11, g10, hf⟩ := am_bd hf
      refine am_callV1 (As := [.int v6, .int q2]) (st := [.int x9, .int v5]) hE (am_dec tmX11_colour 34 rfl) ok_X7_loudest rfl lm_X11_398 in_X7_loudest se_X7_loudest sh_74 cf7 (c_X7_loudest hE sh_74 g10) rfl (Nat.lt_of_lt_of_le (by decide) hdp) (Nat.le_of_ble_eq_true rfl) (Nat.zero_le _) (Nat.zero_le _) rfl ?_
      obtain ⟨x13, g12, hf⟩ := am_bd hf
      refine am_callS1 (As := [.int x9, .int x11]) (st := [.int v5]) (am_dec tmX11_colour 35 rfl) ok_X11_far rfl lm_X11_401 st_X11_far (c_X11_far hE g12) rfl (Nat.lt_of_lt_of_le (by decide) hdp) (Nat.le_of_ble_eq_true rfl) (Nat.zero_le _) (Nat.zero_le _) rfl ?_
      refine am_iadd (am_dec tmX11_colour 36 rfl) ?_
      refine am_istore (lv' := [(0, .ref 16), (2, .int q2), (3, .ref q3), (4, .int q4), (5, .int (v5 + x13)), (6, .int v6)]) (am_dec tmX11_colour 37 rfl) (by decide) rfl ?_
      refine am_iload (am_dec tmX11_colour 38 rfl) rfl ?_
      refine am_iload_n (am_dec tmX11_colour 39 rfl) rfl rfl ?_
      refine am_iadd (am_dec tmX11_colour 40 rfl) ?_
      refine am_istore (lv' := [(0, .ref 16), (2, .int q2), (3, .ref q3), (4, .int q4), (5, .int (v5 + x13)), (6, .int (v6 + q2))]) (am_dec tmX11_colour 41 rfl) (by decide) rfl ?_
      refine am_goto (tgt := 41) (am_dec tmX11_colour 42 rfl) (by decide) ?_
      exact am_pick [0, 1, 2, 3, 4, 5] rfl (l_X11_colour_L41 hE hdp h_q3 n (v5 + x13) (v6 + q2) ex0 hf hk0)
set_option maxRecDepth 100000 in
set_option maxHeartbeats 4000000 in
theorem c_X11_colour {E : am_E} (hE : am_EH E) {p1 : Int32} {p2 : Int32} {D : am_D} {r : Int32}  (hf : f_X11_colour p1 p2 D = some (.inr r)) : am_C E mX11_colour 3 0 0 [.ref 16, .int p1, .int p2] am_G0 D (.inl (some (.int r))) am_G0 D := by
  refine am_C_of (by decide +kernel) (Nat.le_of_ble_eq_true rfl) ?_
  change am_S E mX11_colour 3 0 0 (.inl (some (.int r))) am_G0 D 0 0 0 [(0, .ref 16), (1, .int p1), (2, .int p2)] [] am_G0 D
  unfold f_X11_colour at hf
  refine am_aload_n (am_dec tmX11_colour 0 rfl) rfl rfl ?_
  refine am_iload_n (am_dec tmX11_colour 1 rfl) rfl rfl ?_
  obtain ⟨x2, g1, hf⟩ := am_btR hf
  have h_x2 := k_X11_soundOf g1
  refine am_callV1 (As := [.int p1]) (st := []) hE (am_dec tmX11_colour 2 rfl) ok_X11_soundOf rfl lm_X11_130 in_X11_soundOf se_X11_soundOf sh_16 cf11 (c_X11_soundOf hE g1) rfl (by decide) (Nat.le_of_ble_eq_true rfl) (Nat.zero_le _) (Nat.zero_le _) rfl ?_
  refine am_astore_n (lv' := [(0, .ref 16), (1, .int p1), (2, .int p2), (3, .ref x2)]) (am_dec tmX11_colour 3 rfl) rfl (by decide) rfl ?_
  refine am_iload_n (am_dec tmX11_colour 4 rfl) rfl rfl ?_
  refine am_iconst (v := (4 : Int32)) (am_dec tmX11_colour 5 rfl) (by decide) ?_
  refine am_bipush (v := (60 : Int32)) (am_dec tmX11_colour 6 rfl) (by decide) ?_
  obtain ⟨x4, g3, hf⟩ := am_bd hf
  refine am_callS1 (As := [.int p2, .int (4 : Int32), .int (60 : Int32)]) (st := []) (am_dec tmX11_colour 7 rfl) ok_X11_within rfl lm_X11_143 st_X11_within (c_X11_within hE g3) rfl (by decide) (Nat.le_of_ble_eq_true rfl) (Nat.zero_le _) (Nat.zero_le _) rfl ?_
  obtain ⟨x6, g5, hf⟩ := am_btR hf
  refine am_callS0 (As := [.int x4]) (st := []) (am_dec tmX11_colour 8 rfl) ok_X11_need rfl lm_X11_94 st_X11_need (c_X11_need hE g5) rfl (by decide) (Nat.le_of_ble_eq_true rfl) (Nat.zero_le _) (Nat.zero_le _) rfl ?_
  refine am_aload_n (am_dec tmX11_colour 9 rfl) rfl rfl ?_
  refine am_getI (j := 1) hE (am_dec tmX11_colour 10 rfl) h_x2 cf7 (by decide) rfl lf_X11_134 ?_
  refine am_aload_n (am_dec tmX11_colour 11 rfl) rfl rfl ?_
  refine am_getR (j := 4) hE (am_dec tmX11_colour 12 rfl) sh_16 cf11 (by decide) rfl lf_X11_33 rf_16_4 ?_
  refine am_getR (j := 1) hE (am_dec tmX11_colour 13 rfl) sh_71 cf3 (by decide) rfl lf_X11_197 rf_71_1 ?_
  refine am_getI (j := 1) hE (am_dec tmX11_colour 14 rfl) sh_74 cf7 (by decide) rfl lf_X11_134 ?_
  refine am_mmax2 (am_dec tmX11_colour 15 rfl) lm_X11_393 (Nat.le_of_ble_eq_true rfl) (Nat.zero_le _) (Nat.zero_le _) ?_
  refine am_istore (lv' := [(0, .ref 16), (1, .int p1), (2, .int p2), (3, .ref x2), (4, .int (am_mx (D.1 x2 1) (D.1 74 1)))]) (am_dec tmX11_colour 16 rfl) (by decide) rfl ?_
  refine am_iconst (v := (0 : Int32)) (am_dec tmX11_colour 17 rfl) (by decide) ?_
  refine am_istore (lv' := [(0, .ref 16), (1, .int p1), (2, .int p2), (3, .ref x2), (4, .int (am_mx (D.1 x2 1) (D.1 74 1))), (5, .int (0 : Int32))]) (am_dec tmX11_colour 18 rfl) (by decide) rfl ?_
  refine am_iconst (v := (0 : Int32)) (am_dec tmX11_colour 19 rfl) (by decide) ?_
  refine am_istore (lv' := [(0, .ref 16), (1, .int p1), (2, .int p2), (3, .ref x2), (4, .int (am_mx (D.1 x2 1) (D.1 74 1))), (5, .int (0 : Int32)), (6, .int (0 : Int32))]) (am_dec tmX11_colour 20 rfl) (by decide) rfl ?_
  obtain ⟨e14, g15, hf⟩ := am_bd hf
  refine am_pick [0, 2, 3, 4, 5, 6] rfl (l_X11_colour_L41 hE (Nat.le_refl _) h_x2 am_fu _ _ _ g15 (fun ex he => ?_))
  subst he
  refine am_iload (am_dec tmX11_colour 43 rfl) rfl ?_
  have hf := Sum.inr.inj (Option.some.inj hf)
  subst hf
  exact am_iret (am_dec tmX11_colour 44 rfl) rfl (Nat.zero_le _) (Nat.zero_le _)
set_option maxRecDepth 100000 in
set_option maxHeartbeats 4000000 in
theorem t_X11_colour {E : am_E} (hE : am_EH E) {p1 : Int32} {p2 : Int32} {D : am_D} {r : String}  (hf : f_X11_colour p1 p2 D = some (.inl r)) : am_C E mX11_colour 3 1 6 [.ref 16, .int p1, .int p2] am_G0 D (.inr r) am_G0 D := by
  refine am_C_of (by decide +kernel) (Nat.le_of_ble_eq_true rfl) ?_
  change am_S E mX11_colour 3 1 6 (.inr r) am_G0 D 0 0 0 [(0, .ref 16), (1, .int p1), (2, .int p2)] [] am_G0 D
  unfold f_X11_colour at hf
  refine am_aload_n (am_dec tmX11_colour 0 rfl) rfl rfl ?_
  refine am_iload_n (am_dec tmX11_colour 1 rfl) rfl rfl ?_
  rcases am_btT hf with g1 | ⟨x2, g1, hf⟩
  · exact am_callV_out (As := [.int p1]) (st := []) hE (am_dec tmX11_colour 2 rfl) ok_X11_soundOf rfl lm_X11_130 in_X11_soundOf se_X11_soundOf sh_16 cf11 (t_X11_soundOf hE g1) rfl (by decide) (Nat.le_of_ble_eq_true rfl) (Nat.le_refl _) (Nat.le_refl _) rfl rfl
  · have h_x2 := k_X11_soundOf g1
    refine am_callV1 (As := [.int p1]) (st := []) hE (am_dec tmX11_colour 2 rfl) ok_X11_soundOf rfl lm_X11_130 in_X11_soundOf se_X11_soundOf sh_16 cf11 (c_X11_soundOf hE g1) rfl (by decide) (Nat.le_of_ble_eq_true rfl) (Nat.zero_le _) (Nat.zero_le _) rfl ?_
    refine am_astore_n (lv' := [(0, .ref 16), (1, .int p1), (2, .int p2), (3, .ref x2)]) (am_dec tmX11_colour 3 rfl) rfl (by decide) rfl ?_
    refine am_iload_n (am_dec tmX11_colour 4 rfl) rfl rfl ?_
    refine am_iconst (v := (4 : Int32)) (am_dec tmX11_colour 5 rfl) (by decide) ?_
    refine am_bipush (v := (60 : Int32)) (am_dec tmX11_colour 6 rfl) (by decide) ?_
    obtain ⟨x4, g3, hf⟩ := am_bd hf
    refine am_callS1 (As := [.int p2, .int (4 : Int32), .int (60 : Int32)]) (st := []) (am_dec tmX11_colour 7 rfl) ok_X11_within rfl lm_X11_143 st_X11_within (c_X11_within hE g3) rfl (by decide) (Nat.le_of_ble_eq_true rfl) (Nat.zero_le _) (Nat.zero_le _) rfl ?_
    rcases am_btT hf with g5 | ⟨x6, g5, hf⟩
    · exact am_callS_out (As := [.int x4]) (st := []) (am_dec tmX11_colour 8 rfl) ok_X11_need rfl lm_X11_94 st_X11_need (t_X11_need hE g5) rfl (by decide) (Nat.le_of_ble_eq_true rfl) (Nat.le_refl _) (Nat.le_refl _) rfl rfl
    · refine am_callS0 (As := [.int x4]) (st := []) (am_dec tmX11_colour 8 rfl) ok_X11_need rfl lm_X11_94 st_X11_need (c_X11_need hE g5) rfl (by decide) (Nat.le_of_ble_eq_true rfl) (Nat.zero_le _) (Nat.zero_le _) rfl ?_
      refine am_aload_n (am_dec tmX11_colour 9 rfl) rfl rfl ?_
      refine am_getI (j := 1) hE (am_dec tmX11_colour 10 rfl) h_x2 cf7 (by decide) rfl lf_X11_134 ?_
      refine am_aload_n (am_dec tmX11_colour 11 rfl) rfl rfl ?_
      refine am_getR (j := 4) hE (am_dec tmX11_colour 12 rfl) sh_16 cf11 (by decide) rfl lf_X11_33 rf_16_4 ?_
      refine am_getR (j := 1) hE (am_dec tmX11_colour 13 rfl) sh_71 cf3 (by decide) rfl lf_X11_197 rf_71_1 ?_
      refine am_getI (j := 1) hE (am_dec tmX11_colour 14 rfl) sh_74 cf7 (by decide) rfl lf_X11_134 ?_
      refine am_mmax2 (am_dec tmX11_colour 15 rfl) lm_X11_393 (Nat.le_of_ble_eq_true rfl) (Nat.zero_le _) (Nat.zero_le _) ?_
      refine am_istore (lv' := [(0, .ref 16), (1, .int p1), (2, .int p2), (3, .ref x2), (4, .int (am_mx (D.1 x2 1) (D.1 74 1)))]) (am_dec tmX11_colour 16 rfl) (by decide) rfl ?_
      refine am_iconst (v := (0 : Int32)) (am_dec tmX11_colour 17 rfl) (by decide) ?_
      refine am_istore (lv' := [(0, .ref 16), (1, .int p1), (2, .int p2), (3, .ref x2), (4, .int (am_mx (D.1 x2 1) (D.1 74 1))), (5, .int (0 : Int32))]) (am_dec tmX11_colour 18 rfl) (by decide) rfl ?_
      refine am_iconst (v := (0 : Int32)) (am_dec tmX11_colour 19 rfl) (by decide) ?_
      refine am_istore (lv' := [(0, .ref 16), (1, .int p1), (2, .int p2), (3, .ref x2), (4, .int (am_mx (D.1 x2 1) (D.1 74 1))), (5, .int (0 : Int32)), (6, .int (0 : Int32))]) (am_dec tmX11_colour 20 rfl) (by decide) rfl ?_
      obtain ⟨e14, g15, hf⟩ := am_bd hf
      refine am_pick [0, 2, 3, 4, 5, 6] rfl (l_X11_colour_L41 hE (Nat.le_refl _) h_x2 am_fu _ _ _ g15 (fun ex he => ?_))
      subst he
      refine am_iload (am_dec tmX11_colour 43 rfl) rfl ?_
      cases hf
