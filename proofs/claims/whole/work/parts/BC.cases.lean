/-! the law: its cases (by program: lawgen.py) -/
theorem k_iz (i j : Nat) : Int32.ofNat i + Int32.ofNat j = Int32.ofNat (i + j) := (Int32.ofNat_add i j).symm
set_option maxRecDepth 100000 in
set_option maxHeartbeats 4000000 in
theorem lw_feed {E : am_E} (hE : am_EH E) {D : am_D} (q : k_Q D D) {mc ms cu su i : Nat} (hL : am_L E ≤ 3072) (hi : i + 6 ≤ am_L E) (hc : cu + 1 ≤ mc) (hs : su + 6 ≤ ms) : ∃ D1, k_Q D1 D1 ∧ ∀ (o : am_O) (G' : am_G) (D' : am_D), am_S E mL_law 12 mc ms o G' D' (cu + 1) (su + 6) 3717 [(0, .ref 0), (1, .ref 16), (2, .ref 117), (3, .ref 2637), (4, .int (Int32.ofNat i))] [] am_G0 D1 → am_S E mL_law 12 mc ms o G' D' cu su 272 [(0, .ref 0), (1, .ref 16), (2, .ref 117), (3, .ref 2637), (4, .int (Int32.ofNat i))] [] am_G0 D := by
  obtain ⟨D1, D2, v, a1, a2, a4⟩ := k_joinN (f1 := fun D => f_X11_feed (am_x E (i + 1)) (am_x E (i + 2)) (am_x E (i + 3)) (am_x E (i + 4)) (am_x E (i + 5)) D) (f2 := fun D => f_X12_feed (am_x E (i + 1)) (am_x E (i + 2)) (am_x E (i + 3)) (am_x E (i + 4)) (am_x E (i + 5)) D) (fun D E9 h => op_feed h (am_x E (i + 1)) (am_x E (i + 2)) (am_x E (i + 3)) (am_x E (i + 4)) (am_x E (i + 5))) q
  refine ⟨D2, a4, fun o G' D' k => ?_⟩
  refine am_aload_n (am_dec tmL_law_0 25 rfl) rfl rfl ?_
  refine am_aload_n (am_dec tmL_law_0 26 rfl) rfl rfl ?_
  refine am_iload (am_dec tmL_law_0 27 rfl) rfl ?_
  refine am_iconst (v := (1 : Int32)) (am_dec tmL_law_0 28 rfl) (by decide) ?_
  refine am_iadd (am_dec tmL_law_0 29 rfl) ?_
  refine am_sld (j := i + 1) hE (am_dec tmL_law_0 30 rfl) (k_iz i 1) (by omega) hL ?_
  refine am_aload_n (am_dec tmL_law_0 31 rfl) rfl rfl ?_
  refine am_iload (am_dec tmL_law_0 32 rfl) rfl ?_
  refine am_iconst (v := (2 : Int32)) (am_dec tmL_law_0 33 rfl) (by decide) ?_
  refine am_iadd (am_dec tmL_law_0 34 rfl) ?_
  refine am_sld (j := i + 2) hE (am_dec tmL_law_0 35 rfl) (k_iz i 2) (by omega) hL ?_
  refine am_aload_n (am_dec tmL_law_0 36 rfl) rfl rfl ?_
  refine am_iload (am_dec tmL_law_0 37 rfl) rfl ?_
  refine am_iconst (v := (3 : Int32)) (am_dec tmL_law_0 38 rfl) (by decide) ?_
  refine am_iadd (am_dec tmL_law_0 39 rfl) ?_
  refine am_sld (j := i + 3) hE (am_dec tmL_law_0 40 rfl) (k_iz i 3) (by omega) hL ?_
  refine am_aload_n (am_dec tmL_law_0 41 rfl) rfl rfl ?_
  refine am_iload (am_dec tmL_law_0 42 rfl) rfl ?_
  refine am_iconst (v := (4 : Int32)) (am_dec tmL_law_0 43 rfl) (by decide) ?_
  refine am_iadd (am_dec tmL_law_0 44 rfl) ?_
  refine am_sld (j := i + 4) hE (am_dec tmL_law_0 45 rfl) (k_iz i 4) (by omega) hL ?_
  refine am_aload_n (am_dec tmL_law_0 46 rfl) rfl rfl ?_
  refine am_iload (am_dec tmL_law_0 47 rfl) rfl ?_
  refine am_iconst (v := (5 : Int32)) (am_dec tmL_law_0 48 rfl) (by decide) ?_
  refine am_iadd (am_dec tmL_law_0 49 rfl) ?_
  refine am_sld (j := i + 5) hE (am_dec tmL_law_0 50 rfl) (k_iz i 5) (by omega) hL ?_
  refine am_callV1 (As := [.int (am_x E (i + 1)), .int (am_x E (i + 2)), .int (am_x E (i + 3)), .int (am_x E (i + 4)), .int (am_x E (i + 5))]) (st := []) hE (am_dec tmL_law_0 51 rfl) ok_X11_feed rfl lmL_159 in_X11_feed se_X11_feed sh_16 cf11 (c_X11_feed hE a1) rfl (by decide) (Nat.le_of_ble_eq_true rfl) (Nat.le_trans (Nat.le_add_right _ 1) hc) (Nat.le_trans (Nat.le_add_right _ 6) hs) rfl ?_
  refine am_aload_n (am_dec tmL_law_0 52 rfl) rfl rfl ?_
  refine am_aload_n (am_dec tmL_law_0 53 rfl) rfl rfl ?_
  refine am_iload (am_dec tmL_law_0 54 rfl) rfl ?_
  refine am_iconst (v := (1 : Int32)) (am_dec tmL_law_0 55 rfl) (by decide) ?_
  refine am_iadd (am_dec tmL_law_0 56 rfl) ?_
  refine am_sld (j := i + 1) hE (am_dec tmL_law_0 57 rfl) (k_iz i 1) (by omega) hL ?_
  refine am_aload_n (am_dec tmL_law_0 58 rfl) rfl rfl ?_
  refine am_iload (am_dec tmL_law_0 59 rfl) rfl ?_
  refine am_iconst (v := (2 : Int32)) (am_dec tmL_law_1 0 rfl) (by decide) ?_
  refine am_iadd (am_dec tmL_law_1 1 rfl) ?_
  refine am_sld (j := i + 2) hE (am_dec tmL_law_1 2 rfl) (k_iz i 2) (by omega) hL ?_
  refine am_aload_n (am_dec tmL_law_1 3 rfl) rfl rfl ?_
  refine am_iload (am_dec tmL_law_1 4 rfl) rfl ?_
  refine am_iconst (v := (3 : Int32)) (am_dec tmL_law_1 5 rfl) (by decide) ?_
  refine am_iadd (am_dec tmL_law_1 6 rfl) ?_
  refine am_sld (j := i + 3) hE (am_dec tmL_law_1 7 rfl) (k_iz i 3) (by omega) hL ?_
  refine am_aload_n (am_dec tmL_law_1 8 rfl) rfl rfl ?_
  refine am_iload (am_dec tmL_law_1 9 rfl) rfl ?_
  refine am_iconst (v := (4 : Int32)) (am_dec tmL_law_1 10 rfl) (by decide) ?_
  refine am_iadd (am_dec tmL_law_1 11 rfl) ?_
  refine am_sld (j := i + 4) hE (am_dec tmL_law_1 12 rfl) (k_iz i 4) (by omega) hL ?_
  refine am_aload_n (am_dec tmL_law_1 13 rfl) rfl rfl ?_
  refine am_iload (am_dec tmL_law_1 14 rfl) rfl ?_
  refine am_iconst (v := (5 : Int32)) (am_dec tmL_law_1 15 rfl) (by decide) ?_
  refine am_iadd (am_dec tmL_law_1 16 rfl) ?_
  refine am_sld (j := i + 5) hE (am_dec tmL_law_1 17 rfl) (k_iz i 5) (by omega) hL ?_
  refine am_callV1 (As := [.int (am_x E (i + 1)), .int (am_x E (i + 2)), .int (am_x E (i + 3)), .int (am_x E (i + 4)), .int (am_x E (i + 5))]) (st := [.int v]) hE (am_dec tmL_law_1 18 rfl) ok_X12_feed rfl lmL_162 in_X12_feed se_X12_feed sh_117 cf12 (c_X12_feed hE a2) rfl (by decide) (Nat.le_of_ble_eq_true rfl) (Nat.le_trans (Nat.le_add_right _ 1) hc) (Nat.le_trans (Nat.le_add_right _ 6) hs) rfl ?_
  refine am_icmp_eq (tgt := 3717) (am_dec tmL_law_1 19 rfl) (by decide) (fun _ => ?_) (fun h => absurd rfl h)
  refine am_pick [0, 1, 2, 3, 4] rfl ?_
  exact am_wide (Nat.le_add_right _ _) (Nat.le_add_right _ _) k
set_option maxRecDepth 100000 in
set_option maxHeartbeats 4000000 in
theorem lw_sound {E : am_E} (hE : am_EH E) {D : am_D} (q : k_Q D D) {mc ms cu su i : Nat} (hL : am_L E ≤ 3072) (hi : i + 6 ≤ am_L E) (hc : cu + 1 ≤ mc) (hs : su + 6 ≤ ms) : ∃ D1, k_Q D1 D1 ∧ ∀ (o : am_O) (G' : am_G) (D' : am_D), am_S E mL_law 12 mc ms o G' D' (cu + 1) (su + 6) 3717 [(0, .ref 0), (1, .ref 16), (2, .ref 117), (3, .ref 2637), (4, .int (Int32.ofNat i))] [] am_G0 D1 → am_S E mL_law 12 mc ms o G' D' cu su 345 [(0, .ref 0), (1, .ref 16), (2, .ref 117), (3, .ref 2637), (4, .int (Int32.ofNat i))] [] am_G0 D := by
  rcases k_joinE (f1 := fun D => f_X11_sound (am_x E (i + 1)) D) (f2 := fun D => f_X12_sound (am_x E (i + 1)) D) (ex := ["java/lang/IllegalArgumentException"]) (fun v => v.toInt64) (fun D E9 h => op_sound h (am_x E (i + 1))) q with ⟨D1, D2, v, a1, a2, a3, a4, a5⟩ | ⟨D1, D2, u, j, nm, b0, b1, b2, b3, b4⟩
  · refine ⟨D2, a4, fun o G' D' k => ?_⟩
    have hth : f_X12_thrown D2 = some (0 : Int32) := by rw [← a3]; rfl
    have hld : am_gL D2 2637 1 0 = some (D2.2 2637 0) := k_gl (k := 0) (by decide) (by decide)
    have hcu : ∀ _ : Unit, cu + 1 ≤ mc := fun _ => hc
    have hsu : ∀ _ : Unit, su + 6 ≤ ms := fun _ => hs
    refine am_aload_n (am_dec tmL_law_1 22 rfl) rfl rfl ?_
    refine am_aload_n (am_dec tmL_law_1 23 rfl) rfl rfl ?_
    refine am_iload (am_dec tmL_law_1 24 rfl) rfl ?_
    refine am_iconst (v := (1 : Int32)) (am_dec tmL_law_1 25 rfl) (by decide) ?_
    refine am_iadd (am_dec tmL_law_1 26 rfl) ?_
    refine am_sld (j := i + 1) hE (am_dec tmL_law_1 27 rfl) (k_iz i 1) (by omega) hL ?_
    refine am_aload_n (am_dec tmL_law_1 28 rfl) rfl rfl ?_
    refine am_callSH (As := [.ref 16, .int (am_x E (i + 1)), .ref 2637]) (st := []) (am_dec tmL_law_1 29 rfl) ok_L_sound (fun h => nomatch h) lmL_163 st_L_sound (cw_sound hE a1) rfl (by decide) (Nat.le_of_ble_eq_true rfl) hc hs rfl ?_
    refine am_istore (lv' := [(0, .ref 0), (1, .ref 16), (2, .ref 117), (3, .ref 2637), (4, .int (Int32.ofNat i)), (5, .int (0 : Int32))]) (am_dec tmL_law_1 30 rfl) (by decide) rfl ?_
    refine am_aload_n (am_dec tmL_law_1 31 rfl) rfl rfl ?_
    refine am_aload_n (am_dec tmL_law_1 32 rfl) rfl rfl ?_
    refine am_iload (am_dec tmL_law_1 33 rfl) rfl ?_
    refine am_iconst (v := (1 : Int32)) (am_dec tmL_law_1 34 rfl) (by decide) ?_
    refine am_iadd (am_dec tmL_law_1 35 rfl) ?_
    refine am_sld (j := i + 1) hE (am_dec tmL_law_1 36 rfl) (k_iz i 1) (by omega) hL ?_
    refine am_callV1 (As := [.int (am_x E (i + 1))]) (st := []) hE (am_dec tmL_law_1 37 rfl) ok_X12_sound rfl lmL_168 in_X12_sound se_X12_sound sh_117 cf12 (c_X12_sound hE a2) rfl (by decide) (Nat.le_of_ble_eq_true rfl) hc hs rfl ?_
    refine am_istore (lv' := [(0, .ref 0), (1, .ref 16), (2, .ref 117), (3, .ref 2637), (4, .int (Int32.ofNat i)), (5, .int (0 : Int32)), (6, .int v)]) (am_dec tmL_law_1 38 rfl) (by decide) rfl ?_
    refine am_aload_n (am_dec tmL_law_1 39 rfl) rfl rfl ?_
    refine am_callV1 (As := []) (st := []) hE (am_dec tmL_law_1 40 rfl) ok_X12_thrown rfl lmL_169 in_X12_thrown se_X12_thrown sh_117 cf12 (c_X12_thrown hE hth) rfl (by decide) (Nat.le_of_ble_eq_true rfl) hc hs rfl ?_
    refine am_iload (am_dec tmL_law_1 41 rfl) rfl ?_
    refine am_icmp_eq (tgt := 381) (am_dec tmL_law_1 42 rfl) (by decide) (fun _ => ?_) (fun h => absurd rfl h)
    refine am_iload (am_dec tmL_law_1 45 rfl) rfl ?_
    refine am_if_ne (tgt := 398) (am_dec tmL_law_1 46 rfl) (by decide) (fun h => absurd rfl h) (fun _ => ?_)
    refine am_aload_n (am_dec tmL_law_1 47 rfl) rfl rfl ?_
    refine am_iconst (v := (0 : Int32)) (am_dec tmL_law_1 48 rfl) (by decide) ?_
    refine am_lald2 (n := 1) (i := 0) (v := v.toInt64) hE (am_dec tmL_law_1 49 rfl) shq_2637 (hld.trans (congrArg some a5)) ?_
    refine am_iload (am_dec tmL_law_1 50 rfl) rfl ?_
    refine am_i2l (am_dec tmL_law_1 51 rfl) ?_
    refine am_lcmp (am_dec tmL_law_1 52 rfl) ?_
    refine am_if_eq (tgt := 398) (am_dec tmL_law_1 53 rfl) (by decide) (fun _ => ?_) (fun h => absurd (k_cmp _) h)
    refine am_goto (tgt := 3717) (am_dec tmL_law_1 56 rfl) (by decide) ?_
    refine am_pick [0, 1, 2, 3, 4] rfl ?_
    exact k
  · rcases j with _ | j
    · cases b0
      refine ⟨D2, b4, fun o G' D' k => ?_⟩
      have hth : f_X12_thrown D2 = some (Int32.ofNat 1) := by rw [← b3]; rfl
      refine am_aload_n (am_dec tmL_law_1 22 rfl) rfl rfl ?_
      refine am_aload_n (am_dec tmL_law_1 23 rfl) rfl rfl ?_
      refine am_iload (am_dec tmL_law_1 24 rfl) rfl ?_
      refine am_iconst (v := (1 : Int32)) (am_dec tmL_law_1 25 rfl) (by decide) ?_
      refine am_iadd (am_dec tmL_law_1 26 rfl) ?_
      refine am_sld (j := i + 1) hE (am_dec tmL_law_1 27 rfl) (k_iz i 1) (by omega) hL ?_
      refine am_aload_n (am_dec tmL_law_1 28 rfl) rfl rfl ?_
      refine am_callSH (As := [.ref 16, .int (am_x E (i + 1)), .ref 2637]) (st := []) (am_dec tmL_law_1 29 rfl) ok_L_sound (fun h => nomatch h) lmL_163 st_L_sound (xw_sound_1 hE b1) rfl (by decide) (Nat.le_of_ble_eq_true rfl) hc hs rfl ?_
      refine am_istore (lv' := [(0, .ref 0), (1, .ref 16), (2, .ref 117), (3, .ref 2637), (4, .int (Int32.ofNat i)), (5, .int (1 : Int32))]) (am_dec tmL_law_1 30 rfl) (by decide) rfl ?_
      refine am_aload_n (am_dec tmL_law_1 31 rfl) rfl rfl ?_
      refine am_aload_n (am_dec tmL_law_1 32 rfl) rfl rfl ?_
      refine am_iload (am_dec tmL_law_1 33 rfl) rfl ?_
      refine am_iconst (v := (1 : Int32)) (am_dec tmL_law_1 34 rfl) (by decide) ?_
      refine am_iadd (am_dec tmL_law_1 35 rfl) ?_
      refine am_sld (j := i + 1) hE (am_dec tmL_law_1 36 rfl) (k_iz i 1) (by omega) hL ?_
      refine am_callV1 (As := [.int (am_x E (i + 1))]) (st := []) hE (am_dec tmL_law_1 37 rfl) ok_X12_sound rfl lmL_168 in_X12_sound se_X12_sound sh_117 cf12 (c_X12_sound hE b2) rfl (by decide) (Nat.le_of_ble_eq_true rfl) hc hs rfl ?_
      refine am_istore (lv' := [(0, .ref 0), (1, .ref 16), (2, .ref 117), (3, .ref 2637), (4, .int (Int32.ofNat i)), (5, .int (1 : Int32)), (6, .int u)]) (am_dec tmL_law_1 38 rfl) (by decide) rfl ?_
      refine am_aload_n (am_dec tmL_law_1 39 rfl) rfl rfl ?_
      refine am_callV1 (As := []) (st := []) hE (am_dec tmL_law_1 40 rfl) ok_X12_thrown rfl lmL_169 in_X12_thrown se_X12_thrown sh_117 cf12 (c_X12_thrown hE hth) rfl (by decide) (Nat.le_of_ble_eq_true rfl) hc hs rfl ?_
      refine am_iload (am_dec tmL_law_1 41 rfl) rfl ?_
      refine am_icmp_eq (tgt := 381) (am_dec tmL_law_1 42 rfl) (by decide) (fun _ => ?_) (fun h => absurd rfl h)
      refine am_iload (am_dec tmL_law_1 45 rfl) rfl ?_
      refine am_if_ne (tgt := 398) (am_dec tmL_law_1 46 rfl) (by decide) (fun _ => ?_) (fun h => absurd h (by decide))
      refine am_goto (tgt := 3717) (am_dec tmL_law_1 56 rfl) (by decide) ?_
      refine am_pick [0, 1, 2, 3, 4] rfl ?_
      exact k
    · cases b0
set_option maxRecDepth 100000 in
set_option maxHeartbeats 4000000 in
theorem lw_map {E : am_E} (hE : am_EH E) {D : am_D} (q : k_Q D D) {mc ms cu su i : Nat} (hL : am_L E ≤ 3072) (hi : i + 6 ≤ am_L E) (hc : cu + 1 ≤ mc) (hs : su + 6 ≤ ms) : ∃ D1, k_Q D1 D1 ∧ ∀ (o : am_O) (G' : am_G) (D' : am_D), am_S E mL_law 12 mc ms o G' D' (cu + 1) (su + 6) 3717 [(0, .ref 0), (1, .ref 16), (2, .ref 117), (3, .ref 2637), (4, .int (Int32.ofNat i))] [] am_G0 D1 → am_S E mL_law 12 mc ms o G' D' cu su 401 [(0, .ref 0), (1, .ref 16), (2, .ref 117), (3, .ref 2637), (4, .int (Int32.ofNat i))] [] am_G0 D := by
  rcases k_joinE (f1 := fun D => f_X11_map (am_x E (i + 1)) D) (f2 := fun D => f_X12_map (am_x E (i + 1)) D) (ex := ["java/lang/IllegalArgumentException"]) (fun v => v.toInt64) (fun D E9 h => op_map h (am_x E (i + 1))) q with ⟨D1, D2, v, a1, a2, a3, a4, a5⟩ | ⟨D1, D2, u, j, nm, b0, b1, b2, b3, b4⟩
  · refine ⟨D2, a4, fun o G' D' k => ?_⟩
    have hth : f_X12_thrown D2 = some (0 : Int32) := by rw [← a3]; rfl
    have hld : am_gL D2 2637 1 0 = some (D2.2 2637 0) := k_gl (k := 0) (by decide) (by decide)
    have hcu : ∀ _ : Unit, cu + 1 ≤ mc := fun _ => hc
    have hsu : ∀ _ : Unit, su + 6 ≤ ms := fun _ => hs
    refine am_aload_n (am_dec tmL_law_1 57 rfl) rfl rfl ?_
    refine am_aload_n (am_dec tmL_law_1 58 rfl) rfl rfl ?_
    refine am_iload (am_dec tmL_law_1 59 rfl) rfl ?_
    refine am_iconst (v := (1 : Int32)) (am_dec tmL_law_2 0 rfl) (by decide) ?_
    refine am_iadd (am_dec tmL_law_2 1 rfl) ?_
    refine am_sld (j := i + 1) hE (am_dec tmL_law_2 2 rfl) (k_iz i 1) (by omega) hL ?_
    refine am_aload_n (am_dec tmL_law_2 3 rfl) rfl rfl ?_
    refine am_callSH (As := [.ref 16, .int (am_x E (i + 1)), .ref 2637]) (st := []) (am_dec tmL_law_2 4 rfl) ok_L_map (fun h => nomatch h) lmL_173 st_L_map (cw_map hE a1) rfl (by decide) (Nat.le_of_ble_eq_true rfl) hc hs rfl ?_
    refine am_istore (lv' := [(0, .ref 0), (1, .ref 16), (2, .ref 117), (3, .ref 2637), (4, .int (Int32.ofNat i)), (5, .int (0 : Int32))]) (am_dec tmL_law_2 5 rfl) (by decide) rfl ?_
    refine am_aload_n (am_dec tmL_law_2 6 rfl) rfl rfl ?_
    refine am_aload_n (am_dec tmL_law_2 7 rfl) rfl rfl ?_
    refine am_iload (am_dec tmL_law_2 8 rfl) rfl ?_
    refine am_iconst (v := (1 : Int32)) (am_dec tmL_law_2 9 rfl) (by decide) ?_
    refine am_iadd (am_dec tmL_law_2 10 rfl) ?_
    refine am_sld (j := i + 1) hE (am_dec tmL_law_2 11 rfl) (k_iz i 1) (by omega) hL ?_
    refine am_callV1 (As := [.int (am_x E (i + 1))]) (st := []) hE (am_dec tmL_law_2 12 rfl) ok_X12_map rfl lmL_175 in_X12_map se_X12_map sh_117 cf12 (c_X12_map hE a2) rfl (by decide) (Nat.le_of_ble_eq_true rfl) hc hs rfl ?_
    refine am_istore (lv' := [(0, .ref 0), (1, .ref 16), (2, .ref 117), (3, .ref 2637), (4, .int (Int32.ofNat i)), (5, .int (0 : Int32)), (6, .int v)]) (am_dec tmL_law_2 13 rfl) (by decide) rfl ?_
    refine am_aload_n (am_dec tmL_law_2 14 rfl) rfl rfl ?_
    refine am_callV1 (As := []) (st := []) hE (am_dec tmL_law_2 15 rfl) ok_X12_thrown rfl lmL_169 in_X12_thrown se_X12_thrown sh_117 cf12 (c_X12_thrown hE hth) rfl (by decide) (Nat.le_of_ble_eq_true rfl) hc hs rfl ?_
    refine am_iload (am_dec tmL_law_2 16 rfl) rfl ?_
    refine am_icmp_eq (tgt := 437) (am_dec tmL_law_2 17 rfl) (by decide) (fun _ => ?_) (fun h => absurd rfl h)
    refine am_iload (am_dec tmL_law_2 20 rfl) rfl ?_
    refine am_if_ne (tgt := 454) (am_dec tmL_law_2 21 rfl) (by decide) (fun h => absurd rfl h) (fun _ => ?_)
    refine am_aload_n (am_dec tmL_law_2 22 rfl) rfl rfl ?_
    refine am_iconst (v := (0 : Int32)) (am_dec tmL_law_2 23 rfl) (by decide) ?_
    refine am_lald2 (n := 1) (i := 0) (v := v.toInt64) hE (am_dec tmL_law_2 24 rfl) shq_2637 (hld.trans (congrArg some a5)) ?_
    refine am_iload (am_dec tmL_law_2 25 rfl) rfl ?_
    refine am_i2l (am_dec tmL_law_2 26 rfl) ?_
    refine am_lcmp (am_dec tmL_law_2 27 rfl) ?_
    refine am_if_eq (tgt := 454) (am_dec tmL_law_2 28 rfl) (by decide) (fun _ => ?_) (fun h => absurd (k_cmp _) h)
    refine am_goto (tgt := 3717) (am_dec tmL_law_2 31 rfl) (by decide) ?_
    refine am_pick [0, 1, 2, 3, 4] rfl ?_
    exact k
  · rcases j with _ | j
    · cases b0
      refine ⟨D2, b4, fun o G' D' k => ?_⟩
      have hth : f_X12_thrown D2 = some (Int32.ofNat 1) := by rw [← b3]; rfl
      refine am_aload_n (am_dec tmL_law_1 57 rfl) rfl rfl ?_
      refine am_aload_n (am_dec tmL_law_1 58 rfl) rfl rfl ?_
      refine am_iload (am_dec tmL_law_1 59 rfl) rfl ?_
      refine am_iconst (v := (1 : Int32)) (am_dec tmL_law_2 0 rfl) (by decide) ?_
      refine am_iadd (am_dec tmL_law_2 1 rfl) ?_
      refine am_sld (j := i + 1) hE (am_dec tmL_law_2 2 rfl) (k_iz i 1) (by omega) hL ?_
      refine am_aload_n (am_dec tmL_law_2 3 rfl) rfl rfl ?_
      refine am_callSH (As := [.ref 16, .int (am_x E (i + 1)), .ref 2637]) (st := []) (am_dec tmL_law_2 4 rfl) ok_L_map (fun h => nomatch h) lmL_173 st_L_map (xw_map_1 hE b1) rfl (by decide) (Nat.le_of_ble_eq_true rfl) hc hs rfl ?_
      refine am_istore (lv' := [(0, .ref 0), (1, .ref 16), (2, .ref 117), (3, .ref 2637), (4, .int (Int32.ofNat i)), (5, .int (1 : Int32))]) (am_dec tmL_law_2 5 rfl) (by decide) rfl ?_
      refine am_aload_n (am_dec tmL_law_2 6 rfl) rfl rfl ?_
      refine am_aload_n (am_dec tmL_law_2 7 rfl) rfl rfl ?_
      refine am_iload (am_dec tmL_law_2 8 rfl) rfl ?_
      refine am_iconst (v := (1 : Int32)) (am_dec tmL_law_2 9 rfl) (by decide) ?_
      refine am_iadd (am_dec tmL_law_2 10 rfl) ?_
      refine am_sld (j := i + 1) hE (am_dec tmL_law_2 11 rfl) (k_iz i 1) (by omega) hL ?_
      refine am_callV1 (As := [.int (am_x E (i + 1))]) (st := []) hE (am_dec tmL_law_2 12 rfl) ok_X12_map rfl lmL_175 in_X12_map se_X12_map sh_117 cf12 (c_X12_map hE b2) rfl (by decide) (Nat.le_of_ble_eq_true rfl) hc hs rfl ?_
      refine am_istore (lv' := [(0, .ref 0), (1, .ref 16), (2, .ref 117), (3, .ref 2637), (4, .int (Int32.ofNat i)), (5, .int (1 : Int32)), (6, .int u)]) (am_dec tmL_law_2 13 rfl) (by decide) rfl ?_
      refine am_aload_n (am_dec tmL_law_2 14 rfl) rfl rfl ?_
      refine am_callV1 (As := []) (st := []) hE (am_dec tmL_law_2 15 rfl) ok_X12_thrown rfl lmL_169 in_X12_thrown se_X12_thrown sh_117 cf12 (c_X12_thrown hE hth) rfl (by decide) (Nat.le_of_ble_eq_true rfl) hc hs rfl ?_
      refine am_iload (am_dec tmL_law_2 16 rfl) rfl ?_
      refine am_icmp_eq (tgt := 437) (am_dec tmL_law_2 17 rfl) (by decide) (fun _ => ?_) (fun h => absurd rfl h)
      refine am_iload (am_dec tmL_law_2 20 rfl) rfl ?_
      refine am_if_ne (tgt := 454) (am_dec tmL_law_2 21 rfl) (by decide) (fun _ => ?_) (fun h => absurd h (by decide))
      refine am_goto (tgt := 3717) (am_dec tmL_law_2 31 rfl) (by decide) ?_
      refine am_pick [0, 1, 2, 3, 4] rfl ?_
      exact k
    · cases b0
set_option maxRecDepth 100000 in
set_option maxHeartbeats 4000000 in
theorem lw_fault {E : am_E} (hE : am_EH E) {D : am_D} (q : k_Q D D) {mc ms cu su i : Nat} (hL : am_L E ≤ 3072) (hi : i + 6 ≤ am_L E) (hc : cu + 1 ≤ mc) (hs : su + 6 ≤ ms) : ∃ D1, k_Q D1 D1 ∧ ∀ (o : am_O) (G' : am_G) (D' : am_D), am_S E mL_law 12 mc ms o G' D' (cu + 1) (su + 6) 3717 [(0, .ref 0), (1, .ref 16), (2, .ref 117), (3, .ref 2637), (4, .int (Int32.ofNat i))] [] am_G0 D1 → am_S E mL_law 12 mc ms o G' D' cu su 457 [(0, .ref 0), (1, .ref 16), (2, .ref 117), (3, .ref 2637), (4, .int (Int32.ofNat i))] [] am_G0 D := by
  obtain ⟨D1, D2, v, a1, a2, a4⟩ := k_joinN (f1 := fun D => k_lv D (f_X11_fault D)) (f2 := fun D => f_X12_fault D) (fun D E9 h => op_fault h) q
  obtain ⟨a1, rfl⟩ := k_lv_r a1
  refine ⟨D2, a4, fun o G' D' k => ?_⟩
  refine am_aload_n (am_dec tmL_law_2 32 rfl) rfl rfl ?_
  refine am_callV1 (As := []) (st := []) hE (am_dec tmL_law_2 33 rfl) ok_X11_fault rfl lmL_176 in_X11_fault se_X11_fault sh_16 cf11 (c_X11_fault hE a1) rfl (by decide) (Nat.le_of_ble_eq_true rfl) (Nat.le_trans (Nat.le_add_right _ 1) hc) (Nat.le_trans (Nat.le_add_right _ 6) hs) rfl ?_
  refine am_aload_n (am_dec tmL_law_2 34 rfl) rfl rfl ?_
  refine am_callV1 (As := []) (st := [.int v]) hE (am_dec tmL_law_2 35 rfl) ok_X12_fault rfl lmL_179 in_X12_fault se_X12_fault sh_117 cf12 (c_X12_fault hE a2) rfl (by decide) (Nat.le_of_ble_eq_true rfl) (Nat.le_trans (Nat.le_add_right _ 1) hc) (Nat.le_trans (Nat.le_add_right _ 6) hs) rfl ?_
  refine am_icmp_eq (tgt := 3717) (am_dec tmL_law_2 36 rfl) (by decide) (fun _ => ?_) (fun h => absurd rfl h)
  refine am_pick [0, 1, 2, 3, 4] rfl ?_
  exact am_wide (Nat.le_add_right _ _) (Nat.le_add_right _ _) k
set_option maxRecDepth 100000 in
set_option maxHeartbeats 4000000 in
theorem lw_size {E : am_E} (hE : am_EH E) {D : am_D} (q : k_Q D D) {mc ms cu su i : Nat} (hL : am_L E ≤ 3072) (hi : i + 6 ≤ am_L E) (hc : cu + 1 ≤ mc) (hs : su + 6 ≤ ms) : ∃ D1, k_Q D1 D1 ∧ ∀ (o : am_O) (G' : am_G) (D' : am_D), am_S E mL_law 12 mc ms o G' D' (cu + 1) (su + 6) 3717 [(0, .ref 0), (1, .ref 16), (2, .ref 117), (3, .ref 2637), (4, .int (Int32.ofNat i))] [] am_G0 D1 → am_S E mL_law 12 mc ms o G' D' cu su 470 [(0, .ref 0), (1, .ref 16), (2, .ref 117), (3, .ref 2637), (4, .int (Int32.ofNat i))] [] am_G0 D := by
  rcases k_joinE (f1 := fun D => k_lf D (f_X11_size (am_x E (i + 1)) D)) (f2 := fun D => f_X12_size (am_x E (i + 1)) D) (ex := ["java/util/NoSuchElementException"]) (fun v => v.toInt64) (fun D E9 h => op_size h (am_x E (i + 1))) q with ⟨D1, D2, v, a1, a2, a3, a4, a5⟩ | ⟨D1, D2, u, j, nm, b0, b1, b2, b3, b4⟩
  · refine ⟨D2, a4, fun o G' D' k => ?_⟩
    have hth : f_X12_thrown D2 = some (0 : Int32) := by rw [← a3]; rfl
    have hld : am_gL D2 2637 1 0 = some (D2.2 2637 0) := k_gl (k := 0) (by decide) (by decide)
    have hcu : ∀ _ : Unit, cu + 1 ≤ mc := fun _ => hc
    have hsu : ∀ _ : Unit, su + 6 ≤ ms := fun _ => hs
    refine am_aload_n (am_dec tmL_law_2 39 rfl) rfl rfl ?_
    refine am_aload_n (am_dec tmL_law_2 40 rfl) rfl rfl ?_
    refine am_iload (am_dec tmL_law_2 41 rfl) rfl ?_
    refine am_iconst (v := (1 : Int32)) (am_dec tmL_law_2 42 rfl) (by decide) ?_
    refine am_iadd (am_dec tmL_law_2 43 rfl) ?_
    refine am_sld (j := i + 1) hE (am_dec tmL_law_2 44 rfl) (k_iz i 1) (by omega) hL ?_
    refine am_aload_n (am_dec tmL_law_2 45 rfl) rfl rfl ?_
    refine am_callSH (As := [.ref 16, .int (am_x E (i + 1)), .ref 2637]) (st := []) (am_dec tmL_law_2 46 rfl) ok_L_size (fun h => nomatch h) lmL_180 st_L_size (cw_size hE a1) rfl (by decide) (Nat.le_of_ble_eq_true rfl) hc hs rfl ?_
    refine am_istore (lv' := [(0, .ref 0), (1, .ref 16), (2, .ref 117), (3, .ref 2637), (4, .int (Int32.ofNat i)), (5, .int (0 : Int32))]) (am_dec tmL_law_2 47 rfl) (by decide) rfl ?_
    refine am_aload_n (am_dec tmL_law_2 48 rfl) rfl rfl ?_
    refine am_aload_n (am_dec tmL_law_2 49 rfl) rfl rfl ?_
    refine am_iload (am_dec tmL_law_2 50 rfl) rfl ?_
    refine am_iconst (v := (1 : Int32)) (am_dec tmL_law_2 51 rfl) (by decide) ?_
    refine am_iadd (am_dec tmL_law_2 52 rfl) ?_
    refine am_sld (j := i + 1) hE (am_dec tmL_law_2 53 rfl) (k_iz i 1) (by omega) hL ?_
    refine am_callV1 (As := [.int (am_x E (i + 1))]) (st := []) hE (am_dec tmL_law_2 54 rfl) ok_X12_size rfl lmL_182 in_X12_size se_X12_size sh_117 cf12 (c_X12_size hE a2) rfl (by decide) (Nat.le_of_ble_eq_true rfl) hc hs rfl ?_
    refine am_istore (lv' := [(0, .ref 0), (1, .ref 16), (2, .ref 117), (3, .ref 2637), (4, .int (Int32.ofNat i)), (5, .int (0 : Int32)), (6, .int v)]) (am_dec tmL_law_2 55 rfl) (by decide) rfl ?_
    refine am_aload_n (am_dec tmL_law_2 56 rfl) rfl rfl ?_
    refine am_callV1 (As := []) (st := []) hE (am_dec tmL_law_2 57 rfl) ok_X12_thrown rfl lmL_169 in_X12_thrown se_X12_thrown sh_117 cf12 (c_X12_thrown hE hth) rfl (by decide) (Nat.le_of_ble_eq_true rfl) hc hs rfl ?_
    refine am_iload (am_dec tmL_law_2 58 rfl) rfl ?_
    refine am_icmp_eq (tgt := 506) (am_dec tmL_law_2 59 rfl) (by decide) (fun _ => ?_) (fun h => absurd rfl h)
    refine am_iload (am_dec tmL_law_3 2 rfl) rfl ?_
    refine am_if_ne (tgt := 523) (am_dec tmL_law_3 3 rfl) (by decide) (fun h => absurd rfl h) (fun _ => ?_)
    refine am_aload_n (am_dec tmL_law_3 4 rfl) rfl rfl ?_
    refine am_iconst (v := (0 : Int32)) (am_dec tmL_law_3 5 rfl) (by decide) ?_
    refine am_lald2 (n := 1) (i := 0) (v := v.toInt64) hE (am_dec tmL_law_3 6 rfl) shq_2637 (hld.trans (congrArg some a5)) ?_
    refine am_iload (am_dec tmL_law_3 7 rfl) rfl ?_
    refine am_i2l (am_dec tmL_law_3 8 rfl) ?_
    refine am_lcmp (am_dec tmL_law_3 9 rfl) ?_
    refine am_if_eq (tgt := 523) (am_dec tmL_law_3 10 rfl) (by decide) (fun _ => ?_) (fun h => absurd (k_cmp _) h)
    refine am_goto (tgt := 3717) (am_dec tmL_law_3 13 rfl) (by decide) ?_
    refine am_pick [0, 1, 2, 3, 4] rfl ?_
    exact k
  · rcases j with _ | j
    · cases b0
      refine ⟨D2, b4, fun o G' D' k => ?_⟩
      have hth : f_X12_thrown D2 = some (Int32.ofNat 1) := by rw [← b3]; rfl
      refine am_aload_n (am_dec tmL_law_2 39 rfl) rfl rfl ?_
      refine am_aload_n (am_dec tmL_law_2 40 rfl) rfl rfl ?_
      refine am_iload (am_dec tmL_law_2 41 rfl) rfl ?_
      refine am_iconst (v := (1 : Int32)) (am_dec tmL_law_2 42 rfl) (by decide) ?_
      refine am_iadd (am_dec tmL_law_2 43 rfl) ?_
      refine am_sld (j := i + 1) hE (am_dec tmL_law_2 44 rfl) (k_iz i 1) (by omega) hL ?_
      refine am_aload_n (am_dec tmL_law_2 45 rfl) rfl rfl ?_
      refine am_callSH (As := [.ref 16, .int (am_x E (i + 1)), .ref 2637]) (st := []) (am_dec tmL_law_2 46 rfl) ok_L_size (fun h => nomatch h) lmL_180 st_L_size (xw_size_1 hE b1) rfl (by decide) (Nat.le_of_ble_eq_true rfl) hc hs rfl ?_
      refine am_istore (lv' := [(0, .ref 0), (1, .ref 16), (2, .ref 117), (3, .ref 2637), (4, .int (Int32.ofNat i)), (5, .int (1 : Int32))]) (am_dec tmL_law_2 47 rfl) (by decide) rfl ?_
      refine am_aload_n (am_dec tmL_law_2 48 rfl) rfl rfl ?_
      refine am_aload_n (am_dec tmL_law_2 49 rfl) rfl rfl ?_
      refine am_iload (am_dec tmL_law_2 50 rfl) rfl ?_
      refine am_iconst (v := (1 : Int32)) (am_dec tmL_law_2 51 rfl) (by decide) ?_
      refine am_iadd (am_dec tmL_law_2 52 rfl) ?_
      refine am_sld (j := i + 1) hE (am_dec tmL_law_2 53 rfl) (k_iz i 1) (by omega) hL ?_
      refine am_callV1 (As := [.int (am_x E (i + 1))]) (st := []) hE (am_dec tmL_law_2 54 rfl) ok_X12_size rfl lmL_182 in_X12_size se_X12_size sh_117 cf12 (c_X12_size hE b2) rfl (by decide) (Nat.le_of_ble_eq_true rfl) hc hs rfl ?_
      refine am_istore (lv' := [(0, .ref 0), (1, .ref 16), (2, .ref 117), (3, .ref 2637), (4, .int (Int32.ofNat i)), (5, .int (1 : Int32)), (6, .int u)]) (am_dec tmL_law_2 55 rfl) (by decide) rfl ?_
      refine am_aload_n (am_dec tmL_law_2 56 rfl) rfl rfl ?_
      refine am_callV1 (As := []) (st := []) hE (am_dec tmL_law_2 57 rfl) ok_X12_thrown rfl lmL_169 in_X12_thrown se_X12_thrown sh_117 cf12 (c_X12_thrown hE hth) rfl (by decide) (Nat.le_of_ble_eq_true rfl) hc hs rfl ?_
      refine am_iload (am_dec tmL_law_2 58 rfl) rfl ?_
      refine am_icmp_eq (tgt := 506) (am_dec tmL_law_2 59 rfl) (by decide) (fun _ => ?_) (fun h => absurd rfl h)
      refine am_iload (am_dec tmL_law_3 2 rfl) rfl ?_
      refine am_if_ne (tgt := 523) (am_dec tmL_law_3 3 rfl) (by decide) (fun _ => ?_) (fun h => absurd h (by decide))
      refine am_goto (tgt := 3717) (am_dec tmL_law_3 13 rfl) (by decide) ?_
      refine am_pick [0, 1, 2, 3, 4] rfl ?_
      exact k
    · cases b0
set_option maxRecDepth 100000 in
set_option maxHeartbeats 4000000 in
theorem lw_sample {E : am_E} (hE : am_EH E) {D : am_D} (q : k_Q D D) {mc ms cu su i : Nat} (hL : am_L E ≤ 3072) (hi : i + 6 ≤ am_L E) (hc : cu + 1 ≤ mc) (hs : su + 6 ≤ ms) : ∃ D1, k_Q D1 D1 ∧ ∀ (o : am_O) (G' : am_G) (D' : am_D), am_S E mL_law 12 mc ms o G' D' (cu + 1) (su + 6) 3717 [(0, .ref 0), (1, .ref 16), (2, .ref 117), (3, .ref 2637), (4, .int (Int32.ofNat i))] [] am_G0 D1 → am_S E mL_law 12 mc ms o G' D' cu su 526 [(0, .ref 0), (1, .ref 16), (2, .ref 117), (3, .ref 2637), (4, .int (Int32.ofNat i))] [] am_G0 D := by
  rcases k_joinE (f1 := fun D => k_lf D (f_X11_sample (am_x E (i + 1)) (am_x E (i + 2)) D)) (f2 := fun D => f_X12_sample (am_x E (i + 1)) (am_x E (i + 2)) D) (ex := ["java/util/NoSuchElementException"]) (fun v => v.toInt64) (fun D E9 h => op_sample h (am_x E (i + 1)) (am_x E (i + 2))) q with ⟨D1, D2, v, a1, a2, a3, a4, a5⟩ | ⟨D1, D2, u, j, nm, b0, b1, b2, b3, b4⟩
  · refine ⟨D2, a4, fun o G' D' k => ?_⟩
    have hth : f_X12_thrown D2 = some (0 : Int32) := by rw [← a3]; rfl
    have hld : am_gL D2 2637 1 0 = some (D2.2 2637 0) := k_gl (k := 0) (by decide) (by decide)
    have hcu : ∀ _ : Unit, cu + 1 ≤ mc := fun _ => hc
    have hsu : ∀ _ : Unit, su + 6 ≤ ms := fun _ => hs
    refine am_aload_n (am_dec tmL_law_3 14 rfl) rfl rfl ?_
    refine am_aload_n (am_dec tmL_law_3 15 rfl) rfl rfl ?_
    refine am_iload (am_dec tmL_law_3 16 rfl) rfl ?_
    refine am_iconst (v := (1 : Int32)) (am_dec tmL_law_3 17 rfl) (by decide) ?_
    refine am_iadd (am_dec tmL_law_3 18 rfl) ?_
    refine am_sld (j := i + 1) hE (am_dec tmL_law_3 19 rfl) (k_iz i 1) (by omega) hL ?_
    refine am_aload_n (am_dec tmL_law_3 20 rfl) rfl rfl ?_
    refine am_iload (am_dec tmL_law_3 21 rfl) rfl ?_
    refine am_iconst (v := (2 : Int32)) (am_dec tmL_law_3 22 rfl) (by decide) ?_
    refine am_iadd (am_dec tmL_law_3 23 rfl) ?_
    refine am_sld (j := i + 2) hE (am_dec tmL_law_3 24 rfl) (k_iz i 2) (by omega) hL ?_
    refine am_aload_n (am_dec tmL_law_3 25 rfl) rfl rfl ?_
    refine am_callSH (As := [.ref 16, .int (am_x E (i + 1)), .int (am_x E (i + 2)), .ref 2637]) (st := []) (am_dec tmL_law_3 26 rfl) ok_L_sample (fun h => nomatch h) lmL_183 st_L_sample (cw_sample hE a1) rfl (by decide) (Nat.le_of_ble_eq_true rfl) hc hs rfl ?_
    refine am_istore (lv' := [(0, .ref 0), (1, .ref 16), (2, .ref 117), (3, .ref 2637), (4, .int (Int32.ofNat i)), (5, .int (0 : Int32))]) (am_dec tmL_law_3 27 rfl) (by decide) rfl ?_
    refine am_aload_n (am_dec tmL_law_3 28 rfl) rfl rfl ?_
    refine am_aload_n (am_dec tmL_law_3 29 rfl) rfl rfl ?_
    refine am_iload (am_dec tmL_law_3 30 rfl) rfl ?_
    refine am_iconst (v := (1 : Int32)) (am_dec tmL_law_3 31 rfl) (by decide) ?_
    refine am_iadd (am_dec tmL_law_3 32 rfl) ?_
    refine am_sld (j := i + 1) hE (am_dec tmL_law_3 33 rfl) (k_iz i 1) (by omega) hL ?_
    refine am_aload_n (am_dec tmL_law_3 34 rfl) rfl rfl ?_
    refine am_iload (am_dec tmL_law_3 35 rfl) rfl ?_
    refine am_iconst (v := (2 : Int32)) (am_dec tmL_law_3 36 rfl) (by decide) ?_
    refine am_iadd (am_dec tmL_law_3 37 rfl) ?_
    refine am_sld (j := i + 2) hE (am_dec tmL_law_3 38 rfl) (k_iz i 2) (by omega) hL ?_
    refine am_callV1 (As := [.int (am_x E (i + 1)), .int (am_x E (i + 2))]) (st := []) hE (am_dec tmL_law_3 39 rfl) ok_X12_sample rfl lmL_186 in_X12_sample se_X12_sample sh_117 cf12 (c_X12_sample hE a2) rfl (by decide) (Nat.le_of_ble_eq_true rfl) hc hs rfl ?_
    refine am_istore (lv' := [(0, .ref 0), (1, .ref 16), (2, .ref 117), (3, .ref 2637), (4, .int (Int32.ofNat i)), (5, .int (0 : Int32)), (6, .int v)]) (am_dec tmL_law_3 40 rfl) (by decide) rfl ?_
    refine am_aload_n (am_dec tmL_law_3 41 rfl) rfl rfl ?_
    refine am_callV1 (As := []) (st := []) hE (am_dec tmL_law_3 42 rfl) ok_X12_thrown rfl lmL_169 in_X12_thrown se_X12_thrown sh_117 cf12 (c_X12_thrown hE hth) rfl (by decide) (Nat.le_of_ble_eq_true rfl) hc hs rfl ?_
    refine am_iload (am_dec tmL_law_3 43 rfl) rfl ?_
    refine am_icmp_eq (tgt := 574) (am_dec tmL_law_3 44 rfl) (by decide) (fun _ => ?_) (fun h => absurd rfl h)
    refine am_iload (am_dec tmL_law_3 47 rfl) rfl ?_
    refine am_if_ne (tgt := 591) (am_dec tmL_law_3 48 rfl) (by decide) (fun h => absurd rfl h) (fun _ => ?_)
    refine am_aload_n (am_dec tmL_law_3 49 rfl) rfl rfl ?_
    refine am_iconst (v := (0 : Int32)) (am_dec tmL_law_3 50 rfl) (by decide) ?_
    refine am_lald2 (n := 1) (i := 0) (v := v.toInt64) hE (am_dec tmL_law_3 51 rfl) shq_2637 (hld.trans (congrArg some a5)) ?_
    refine am_iload (am_dec tmL_law_3 52 rfl) rfl ?_
    refine am_i2l (am_dec tmL_law_3 53 rfl) ?_
    refine am_lcmp (am_dec tmL_law_3 54 rfl) ?_
    refine am_if_eq (tgt := 591) (am_dec tmL_law_3 55 rfl) (by decide) (fun _ => ?_) (fun h => absurd (k_cmp _) h)
    refine am_goto (tgt := 3717) (am_dec tmL_law_3 58 rfl) (by decide) ?_
    refine am_pick [0, 1, 2, 3, 4] rfl ?_
    exact k
  · rcases j with _ | j
    · cases b0
      refine ⟨D2, b4, fun o G' D' k => ?_⟩
      have hth : f_X12_thrown D2 = some (Int32.ofNat 1) := by rw [← b3]; rfl
      refine am_aload_n (am_dec tmL_law_3 14 rfl) rfl rfl ?_
      refine am_aload_n (am_dec tmL_law_3 15 rfl) rfl rfl ?_
      refine am_iload (am_dec tmL_law_3 16 rfl) rfl ?_
      refine am_iconst (v := (1 : Int32)) (am_dec tmL_law_3 17 rfl) (by decide) ?_
      refine am_iadd (am_dec tmL_law_3 18 rfl) ?_
      refine am_sld (j := i + 1) hE (am_dec tmL_law_3 19 rfl) (k_iz i 1) (by omega) hL ?_
      refine am_aload_n (am_dec tmL_law_3 20 rfl) rfl rfl ?_
      refine am_iload (am_dec tmL_law_3 21 rfl) rfl ?_
      refine am_iconst (v := (2 : Int32)) (am_dec tmL_law_3 22 rfl) (by decide) ?_
      refine am_iadd (am_dec tmL_law_3 23 rfl) ?_
      refine am_sld (j := i + 2) hE (am_dec tmL_law_3 24 rfl) (k_iz i 2) (by omega) hL ?_
      refine am_aload_n (am_dec tmL_law_3 25 rfl) rfl rfl ?_
      refine am_callSH (As := [.ref 16, .int (am_x E (i + 1)), .int (am_x E (i + 2)), .ref 2637]) (st := []) (am_dec tmL_law_3 26 rfl) ok_L_sample (fun h => nomatch h) lmL_183 st_L_sample (xw_sample_1 hE b1) rfl (by decide) (Nat.le_of_ble_eq_true rfl) hc hs rfl ?_
      refine am_istore (lv' := [(0, .ref 0), (1, .ref 16), (2, .ref 117), (3, .ref 2637), (4, .int (Int32.ofNat i)), (5, .int (1 : Int32))]) (am_dec tmL_law_3 27 rfl) (by decide) rfl ?_
      refine am_aload_n (am_dec tmL_law_3 28 rfl) rfl rfl ?_
      refine am_aload_n (am_dec tmL_law_3 29 rfl) rfl rfl ?_
      refine am_iload (am_dec tmL_law_3 30 rfl) rfl ?_
      refine am_iconst (v := (1 : Int32)) (am_dec tmL_law_3 31 rfl) (by decide) ?_
      refine am_iadd (am_dec tmL_law_3 32 rfl) ?_
      refine am_sld (j := i + 1) hE (am_dec tmL_law_3 33 rfl) (k_iz i 1) (by omega) hL ?_
      refine am_aload_n (am_dec tmL_law_3 34 rfl) rfl rfl ?_
      refine am_iload (am_dec tmL_law_3 35 rfl) rfl ?_
      refine am_iconst (v := (2 : Int32)) (am_dec tmL_law_3 36 rfl) (by decide) ?_
      refine am_iadd (am_dec tmL_law_3 37 rfl) ?_
      refine am_sld (j := i + 2) hE (am_dec tmL_law_3 38 rfl) (k_iz i 2) (by omega) hL ?_
      refine am_callV1 (As := [.int (am_x E (i + 1)), .int (am_x E (i + 2))]) (st := []) hE (am_dec tmL_law_3 39 rfl) ok_X12_sample rfl lmL_186 in_X12_sample se_X12_sample sh_117 cf12 (c_X12_sample hE b2) rfl (by decide) (Nat.le_of_ble_eq_true rfl) hc hs rfl ?_
      refine am_istore (lv' := [(0, .ref 0), (1, .ref 16), (2, .ref 117), (3, .ref 2637), (4, .int (Int32.ofNat i)), (5, .int (1 : Int32)), (6, .int u)]) (am_dec tmL_law_3 40 rfl) (by decide) rfl ?_
      refine am_aload_n (am_dec tmL_law_3 41 rfl) rfl rfl ?_
      refine am_callV1 (As := []) (st := []) hE (am_dec tmL_law_3 42 rfl) ok_X12_thrown rfl lmL_169 in_X12_thrown se_X12_thrown sh_117 cf12 (c_X12_thrown hE hth) rfl (by decide) (Nat.le_of_ble_eq_true rfl) hc hs rfl ?_
      refine am_iload (am_dec tmL_law_3 43 rfl) rfl ?_
      refine am_icmp_eq (tgt := 574) (am_dec tmL_law_3 44 rfl) (by decide) (fun _ => ?_) (fun h => absurd rfl h)
      refine am_iload (am_dec tmL_law_3 47 rfl) rfl ?_
      refine am_if_ne (tgt := 591) (am_dec tmL_law_3 48 rfl) (by decide) (fun _ => ?_) (fun h => absurd h (by decide))
      refine am_goto (tgt := 3717) (am_dec tmL_law_3 58 rfl) (by decide) ?_
      refine am_pick [0, 1, 2, 3, 4] rfl ?_
      exact k
    · cases b0
set_option maxRecDepth 100000 in
set_option maxHeartbeats 4000000 in
theorem lw_told {E : am_E} (hE : am_EH E) {D : am_D} (q : k_Q D D) {mc ms cu su i : Nat} (hL : am_L E ≤ 3072) (hi : i + 6 ≤ am_L E) (hc : cu + 1 ≤ mc) (hs : su + 6 ≤ ms) : ∃ D1, k_Q D1 D1 ∧ ∀ (o : am_O) (G' : am_G) (D' : am_D), am_S E mL_law 12 mc ms o G' D' (cu + 1) (su + 6) 3717 [(0, .ref 0), (1, .ref 16), (2, .ref 117), (3, .ref 2637), (4, .int (Int32.ofNat i))] [] am_G0 D1 → am_S E mL_law 12 mc ms o G' D' cu su 594 [(0, .ref 0), (1, .ref 16), (2, .ref 117), (3, .ref 2637), (4, .int (Int32.ofNat i))] [] am_G0 D := by
  rcases k_joinE (f1 := fun D => k_lf D (f_X11_told (am_x E (i + 1)) (am_x E (i + 2)) D)) (f2 := fun D => f_X12_told (am_x E (i + 1)) (am_x E (i + 2)) D) (ex := ["java/lang/IndexOutOfBoundsException", "java/lang/IllegalArgumentException"]) (fun v => v.toInt64) (fun D E9 h => op_told h (am_x E (i + 1)) (am_x E (i + 2))) q with ⟨D1, D2, v, a1, a2, a3, a4, a5⟩ | ⟨D1, D2, u, j, nm, b0, b1, b2, b3, b4⟩
  · refine ⟨D2, a4, fun o G' D' k => ?_⟩
    have hth : f_X12_thrown D2 = some (0 : Int32) := by rw [← a3]; rfl
    have hld : am_gL D2 2637 1 0 = some (D2.2 2637 0) := k_gl (k := 0) (by decide) (by decide)
    have hcu : ∀ _ : Unit, cu + 1 ≤ mc := fun _ => hc
    have hsu : ∀ _ : Unit, su + 6 ≤ ms := fun _ => hs
    refine am_aload_n (am_dec tmL_law_3 59 rfl) rfl rfl ?_
    refine am_aload_n (am_dec tmL_law_4 0 rfl) rfl rfl ?_
    refine am_iload (am_dec tmL_law_4 1 rfl) rfl ?_
    refine am_iconst (v := (1 : Int32)) (am_dec tmL_law_4 2 rfl) (by decide) ?_
    refine am_iadd (am_dec tmL_law_4 3 rfl) ?_
    refine am_sld (j := i + 1) hE (am_dec tmL_law_4 4 rfl) (k_iz i 1) (by omega) hL ?_
    refine am_aload_n (am_dec tmL_law_4 5 rfl) rfl rfl ?_
    refine am_iload (am_dec tmL_law_4 6 rfl) rfl ?_
    refine am_iconst (v := (2 : Int32)) (am_dec tmL_law_4 7 rfl) (by decide) ?_
    refine am_iadd (am_dec tmL_law_4 8 rfl) ?_
    refine am_sld (j := i + 2) hE (am_dec tmL_law_4 9 rfl) (k_iz i 2) (by omega) hL ?_
    refine am_aload_n (am_dec tmL_law_4 10 rfl) rfl rfl ?_
    refine am_callSH (As := [.ref 16, .int (am_x E (i + 1)), .int (am_x E (i + 2)), .ref 2637]) (st := []) (am_dec tmL_law_4 11 rfl) ok_L_told (fun h => nomatch h) lmL_187 st_L_told (cw_told hE a1) rfl (by decide) (Nat.le_of_ble_eq_true rfl) hc hs rfl ?_
    refine am_istore (lv' := [(0, .ref 0), (1, .ref 16), (2, .ref 117), (3, .ref 2637), (4, .int (Int32.ofNat i)), (5, .int (0 : Int32))]) (am_dec tmL_law_4 12 rfl) (by decide) rfl ?_
    refine am_aload_n (am_dec tmL_law_4 13 rfl) rfl rfl ?_
    refine am_aload_n (am_dec tmL_law_4 14 rfl) rfl rfl ?_
    refine am_iload (am_dec tmL_law_4 15 rfl) rfl ?_
    refine am_iconst (v := (1 : Int32)) (am_dec tmL_law_4 16 rfl) (by decide) ?_
    refine am_iadd (am_dec tmL_law_4 17 rfl) ?_
    refine am_sld (j := i + 1) hE (am_dec tmL_law_4 18 rfl) (k_iz i 1) (by omega) hL ?_
    refine am_aload_n (am_dec tmL_law_4 19 rfl) rfl rfl ?_
    refine am_iload (am_dec tmL_law_4 20 rfl) rfl ?_
    refine am_iconst (v := (2 : Int32)) (am_dec tmL_law_4 21 rfl) (by decide) ?_
    refine am_iadd (am_dec tmL_law_4 22 rfl) ?_
    refine am_sld (j := i + 2) hE (am_dec tmL_law_4 23 rfl) (k_iz i 2) (by omega) hL ?_
    refine am_callV1 (As := [.int (am_x E (i + 1)), .int (am_x E (i + 2))]) (st := []) hE (am_dec tmL_law_4 24 rfl) ok_X12_told rfl lmL_189 in_X12_told se_X12_told sh_117 cf12 (c_X12_told hE a2) rfl (by decide) (Nat.le_of_ble_eq_true rfl) hc hs rfl ?_
    refine am_istore (lv' := [(0, .ref 0), (1, .ref 16), (2, .ref 117), (3, .ref 2637), (4, .int (Int32.ofNat i)), (5, .int (0 : Int32)), (6, .int v)]) (am_dec tmL_law_4 25 rfl) (by decide) rfl ?_
    refine am_aload_n (am_dec tmL_law_4 26 rfl) rfl rfl ?_
    refine am_callV1 (As := []) (st := []) hE (am_dec tmL_law_4 27 rfl) ok_X12_thrown rfl lmL_169 in_X12_thrown se_X12_thrown sh_117 cf12 (c_X12_thrown hE hth) rfl (by decide) (Nat.le_of_ble_eq_true rfl) hc hs rfl ?_
    refine am_iload (am_dec tmL_law_4 28 rfl) rfl ?_
    refine am_icmp_eq (tgt := 642) (am_dec tmL_law_4 29 rfl) (by decide) (fun _ => ?_) (fun h => absurd rfl h)
    refine am_iload (am_dec tmL_law_4 32 rfl) rfl ?_
    refine am_if_ne (tgt := 659) (am_dec tmL_law_4 33 rfl) (by decide) (fun h => absurd rfl h) (fun _ => ?_)
    refine am_aload_n (am_dec tmL_law_4 34 rfl) rfl rfl ?_
    refine am_iconst (v := (0 : Int32)) (am_dec tmL_law_4 35 rfl) (by decide) ?_
    refine am_lald2 (n := 1) (i := 0) (v := v.toInt64) hE (am_dec tmL_law_4 36 rfl) shq_2637 (hld.trans (congrArg some a5)) ?_
    refine am_iload (am_dec tmL_law_4 37 rfl) rfl ?_
    refine am_i2l (am_dec tmL_law_4 38 rfl) ?_
    refine am_lcmp (am_dec tmL_law_4 39 rfl) ?_
    refine am_if_eq (tgt := 659) (am_dec tmL_law_4 40 rfl) (by decide) (fun _ => ?_) (fun h => absurd (k_cmp _) h)
    refine am_goto (tgt := 3717) (am_dec tmL_law_4 43 rfl) (by decide) ?_
    refine am_pick [0, 1, 2, 3, 4] rfl ?_
    exact k
  · rcases j with _ | _ | j
    · cases b0
      refine ⟨D2, b4, fun o G' D' k => ?_⟩
      have hth : f_X12_thrown D2 = some (Int32.ofNat 1) := by rw [← b3]; rfl
      refine am_aload_n (am_dec tmL_law_3 59 rfl) rfl rfl ?_
      refine am_aload_n (am_dec tmL_law_4 0 rfl) rfl rfl ?_
      refine am_iload (am_dec tmL_law_4 1 rfl) rfl ?_
      refine am_iconst (v := (1 : Int32)) (am_dec tmL_law_4 2 rfl) (by decide) ?_
      refine am_iadd (am_dec tmL_law_4 3 rfl) ?_
      refine am_sld (j := i + 1) hE (am_dec tmL_law_4 4 rfl) (k_iz i 1) (by omega) hL ?_
      refine am_aload_n (am_dec tmL_law_4 5 rfl) rfl rfl ?_
      refine am_iload (am_dec tmL_law_4 6 rfl) rfl ?_
      refine am_iconst (v := (2 : Int32)) (am_dec tmL_law_4 7 rfl) (by decide) ?_
      refine am_iadd (am_dec tmL_law_4 8 rfl) ?_
      refine am_sld (j := i + 2) hE (am_dec tmL_law_4 9 rfl) (k_iz i 2) (by omega) hL ?_
      refine am_aload_n (am_dec tmL_law_4 10 rfl) rfl rfl ?_
      refine am_callSH (As := [.ref 16, .int (am_x E (i + 1)), .int (am_x E (i + 2)), .ref 2637]) (st := []) (am_dec tmL_law_4 11 rfl) ok_L_told (fun h => nomatch h) lmL_187 st_L_told (xw_told_1 hE b1) rfl (by decide) (Nat.le_of_ble_eq_true rfl) hc hs rfl ?_
      refine am_istore (lv' := [(0, .ref 0), (1, .ref 16), (2, .ref 117), (3, .ref 2637), (4, .int (Int32.ofNat i)), (5, .int (1 : Int32))]) (am_dec tmL_law_4 12 rfl) (by decide) rfl ?_
      refine am_aload_n (am_dec tmL_law_4 13 rfl) rfl rfl ?_
      refine am_aload_n (am_dec tmL_law_4 14 rfl) rfl rfl ?_
      refine am_iload (am_dec tmL_law_4 15 rfl) rfl ?_
      refine am_iconst (v := (1 : Int32)) (am_dec tmL_law_4 16 rfl) (by decide) ?_
      refine am_iadd (am_dec tmL_law_4 17 rfl) ?_
      refine am_sld (j := i + 1) hE (am_dec tmL_law_4 18 rfl) (k_iz i 1) (by omega) hL ?_
      refine am_aload_n (am_dec tmL_law_4 19 rfl) rfl rfl ?_
      refine am_iload (am_dec tmL_law_4 20 rfl) rfl ?_
      refine am_iconst (v := (2 : Int32)) (am_dec tmL_law_4 21 rfl) (by decide) ?_
      refine am_iadd (am_dec tmL_law_4 22 rfl) ?_
      refine am_sld (j := i + 2) hE (am_dec tmL_law_4 23 rfl) (k_iz i 2) (by omega) hL ?_
      refine am_callV1 (As := [.int (am_x E (i + 1)), .int (am_x E (i + 2))]) (st := []) hE (am_dec tmL_law_4 24 rfl) ok_X12_told rfl lmL_189 in_X12_told se_X12_told sh_117 cf12 (c_X12_told hE b2) rfl (by decide) (Nat.le_of_ble_eq_true rfl) hc hs rfl ?_
      refine am_istore (lv' := [(0, .ref 0), (1, .ref 16), (2, .ref 117), (3, .ref 2637), (4, .int (Int32.ofNat i)), (5, .int (1 : Int32)), (6, .int u)]) (am_dec tmL_law_4 25 rfl) (by decide) rfl ?_
      refine am_aload_n (am_dec tmL_law_4 26 rfl) rfl rfl ?_
      refine am_callV1 (As := []) (st := []) hE (am_dec tmL_law_4 27 rfl) ok_X12_thrown rfl lmL_169 in_X12_thrown se_X12_thrown sh_117 cf12 (c_X12_thrown hE hth) rfl (by decide) (Nat.le_of_ble_eq_true rfl) hc hs rfl ?_
      refine am_iload (am_dec tmL_law_4 28 rfl) rfl ?_
      refine am_icmp_eq (tgt := 642) (am_dec tmL_law_4 29 rfl) (by decide) (fun _ => ?_) (fun h => absurd rfl h)
      refine am_iload (am_dec tmL_law_4 32 rfl) rfl ?_
      refine am_if_ne (tgt := 659) (am_dec tmL_law_4 33 rfl) (by decide) (fun _ => ?_) (fun h => absurd h (by decide))
      refine am_goto (tgt := 3717) (am_dec tmL_law_4 43 rfl) (by decide) ?_
      refine am_pick [0, 1, 2, 3, 4] rfl ?_
      exact k
    · cases b0
      refine ⟨D2, b4, fun o G' D' k => ?_⟩
      have hth : f_X12_thrown D2 = some (Int32.ofNat 2) := by rw [← b3]; rfl
      refine am_aload_n (am_dec tmL_law_3 59 rfl) rfl rfl ?_
      refine am_aload_n (am_dec tmL_law_4 0 rfl) rfl rfl ?_
      refine am_iload (am_dec tmL_law_4 1 rfl) rfl ?_
      refine am_iconst (v := (1 : Int32)) (am_dec tmL_law_4 2 rfl) (by decide) ?_
      refine am_iadd (am_dec tmL_law_4 3 rfl) ?_
      refine am_sld (j := i + 1) hE (am_dec tmL_law_4 4 rfl) (k_iz i 1) (by omega) hL ?_
      refine am_aload_n (am_dec tmL_law_4 5 rfl) rfl rfl ?_
      refine am_iload (am_dec tmL_law_4 6 rfl) rfl ?_
      refine am_iconst (v := (2 : Int32)) (am_dec tmL_law_4 7 rfl) (by decide) ?_
      refine am_iadd (am_dec tmL_law_4 8 rfl) ?_
      refine am_sld (j := i + 2) hE (am_dec tmL_law_4 9 rfl) (k_iz i 2) (by omega) hL ?_
      refine am_aload_n (am_dec tmL_law_4 10 rfl) rfl rfl ?_
      refine am_callSH (As := [.ref 16, .int (am_x E (i + 1)), .int (am_x E (i + 2)), .ref 2637]) (st := []) (am_dec tmL_law_4 11 rfl) ok_L_told (fun h => nomatch h) lmL_187 st_L_told (xw_told_2 hE b1) rfl (by decide) (Nat.le_of_ble_eq_true rfl) hc hs rfl ?_
      refine am_istore (lv' := [(0, .ref 0), (1, .ref 16), (2, .ref 117), (3, .ref 2637), (4, .int (Int32.ofNat i)), (5, .int (2 : Int32))]) (am_dec tmL_law_4 12 rfl) (by decide) rfl ?_
      refine am_aload_n (am_dec tmL_law_4 13 rfl) rfl rfl ?_
      refine am_aload_n (am_dec tmL_law_4 14 rfl) rfl rfl ?_
      refine am_iload (am_dec tmL_law_4 15 rfl) rfl ?_
      refine am_iconst (v := (1 : Int32)) (am_dec tmL_law_4 16 rfl) (by decide) ?_
      refine am_iadd (am_dec tmL_law_4 17 rfl) ?_
      refine am_sld (j := i + 1) hE (am_dec tmL_law_4 18 rfl) (k_iz i 1) (by omega) hL ?_
      refine am_aload_n (am_dec tmL_law_4 19 rfl) rfl rfl ?_
      refine am_iload (am_dec tmL_law_4 20 rfl) rfl ?_
      refine am_iconst (v := (2 : Int32)) (am_dec tmL_law_4 21 rfl) (by decide) ?_
      refine am_iadd (am_dec tmL_law_4 22 rfl) ?_
      refine am_sld (j := i + 2) hE (am_dec tmL_law_4 23 rfl) (k_iz i 2) (by omega) hL ?_
      refine am_callV1 (As := [.int (am_x E (i + 1)), .int (am_x E (i + 2))]) (st := []) hE (am_dec tmL_law_4 24 rfl) ok_X12_told rfl lmL_189 in_X12_told se_X12_told sh_117 cf12 (c_X12_told hE b2) rfl (by decide) (Nat.le_of_ble_eq_true rfl) hc hs rfl ?_
      refine am_istore (lv' := [(0, .ref 0), (1, .ref 16), (2, .ref 117), (3, .ref 2637), (4, .int (Int32.ofNat i)), (5, .int (2 : Int32)), (6, .int u)]) (am_dec tmL_law_4 25 rfl) (by decide) rfl ?_
      refine am_aload_n (am_dec tmL_law_4 26 rfl) rfl rfl ?_
      refine am_callV1 (As := []) (st := []) hE (am_dec tmL_law_4 27 rfl) ok_X12_thrown rfl lmL_169 in_X12_thrown se_X12_thrown sh_117 cf12 (c_X12_thrown hE hth) rfl (by decide) (Nat.le_of_ble_eq_true rfl) hc hs rfl ?_
      refine am_iload (am_dec tmL_law_4 28 rfl) rfl ?_
      refine am_icmp_eq (tgt := 642) (am_dec tmL_law_4 29 rfl) (by decide) (fun _ => ?_) (fun h => absurd rfl h)
      refine am_iload (am_dec tmL_law_4 32 rfl) rfl ?_
      refine am_if_ne (tgt := 659) (am_dec tmL_law_4 33 rfl) (by decide) (fun _ => ?_) (fun h => absurd h (by decide))
      refine am_goto (tgt := 3717) (am_dec tmL_law_4 43 rfl) (by decide) ?_
      refine am_pick [0, 1, 2, 3, 4] rfl ?_
      exact k
    · cases b0
set_option maxRecDepth 100000 in
set_option maxHeartbeats 4000000 in
theorem lw_place {E : am_E} (hE : am_EH E) {D : am_D} (q : k_Q D D) {mc ms cu su i : Nat} (hL : am_L E ≤ 3072) (hi : i + 6 ≤ am_L E) (hc : cu + 1 ≤ mc) (hs : su + 6 ≤ ms) : ∃ D1, k_Q D1 D1 ∧ ∀ (o : am_O) (G' : am_G) (D' : am_D), am_S E mL_law 12 mc ms o G' D' (cu + 1) (su + 6) 3717 [(0, .ref 0), (1, .ref 16), (2, .ref 117), (3, .ref 2637), (4, .int (Int32.ofNat i))] [] am_G0 D1 → am_S E mL_law 12 mc ms o G' D' cu su 662 [(0, .ref 0), (1, .ref 16), (2, .ref 117), (3, .ref 2637), (4, .int (Int32.ofNat i))] [] am_G0 D := by
  rcases k_joinE (f1 := fun D => k_lf D (f_X11_place (am_x E (i + 1)) (am_x E (i + 2)) D)) (f2 := fun D => f_X12_place (am_x E (i + 1)) (am_x E (i + 2)) D) (ex := ["java/lang/IndexOutOfBoundsException"]) (fun v => v.toInt64) (fun D E9 h => op_place h (am_x E (i + 1)) (am_x E (i + 2))) q with ⟨D1, D2, v, a1, a2, a3, a4, a5⟩ | ⟨D1, D2, u, j, nm, b0, b1, b2, b3, b4⟩
  · refine ⟨D2, a4, fun o G' D' k => ?_⟩
    have hth : f_X12_thrown D2 = some (0 : Int32) := by rw [← a3]; rfl
    have hld : am_gL D2 2637 1 0 = some (D2.2 2637 0) := k_gl (k := 0) (by decide) (by decide)
    have hcu : ∀ _ : Unit, cu + 1 ≤ mc := fun _ => hc
    have hsu : ∀ _ : Unit, su + 6 ≤ ms := fun _ => hs
    refine am_aload_n (am_dec tmL_law_4 44 rfl) rfl rfl ?_
    refine am_aload_n (am_dec tmL_law_4 45 rfl) rfl rfl ?_
    refine am_iload (am_dec tmL_law_4 46 rfl) rfl ?_
    refine am_iconst (v := (1 : Int32)) (am_dec tmL_law_4 47 rfl) (by decide) ?_
    refine am_iadd (am_dec tmL_law_4 48 rfl) ?_
    refine am_sld (j := i + 1) hE (am_dec tmL_law_4 49 rfl) (k_iz i 1) (by omega) hL ?_
    refine am_aload_n (am_dec tmL_law_4 50 rfl) rfl rfl ?_
    refine am_iload (am_dec tmL_law_4 51 rfl) rfl ?_
    refine am_iconst (v := (2 : Int32)) (am_dec tmL_law_4 52 rfl) (by decide) ?_
    refine am_iadd (am_dec tmL_law_4 53 rfl) ?_
    refine am_sld (j := i + 2) hE (am_dec tmL_law_4 54 rfl) (k_iz i 2) (by omega) hL ?_
    refine am_aload_n (am_dec tmL_law_4 55 rfl) rfl rfl ?_
    refine am_callSH (As := [.ref 16, .int (am_x E (i + 1)), .int (am_x E (i + 2)), .ref 2637]) (st := []) (am_dec tmL_law_4 56 rfl) ok_L_place (fun h => nomatch h) lmL_190 st_L_place (cw_place hE a1) rfl (by decide) (Nat.le_of_ble_eq_true rfl) hc hs rfl ?_
    refine am_istore (lv' := [(0, .ref 0), (1, .ref 16), (2, .ref 117), (3, .ref 2637), (4, .int (Int32.ofNat i)), (5, .int (0 : Int32))]) (am_dec tmL_law_4 57 rfl) (by decide) rfl ?_
    refine am_aload_n (am_dec tmL_law_4 58 rfl) rfl rfl ?_
    refine am_aload_n (am_dec tmL_law_4 59 rfl) rfl rfl ?_
    refine am_iload (am_dec tmL_law_5 0 rfl) rfl ?_
    refine am_iconst (v := (1 : Int32)) (am_dec tmL_law_5 1 rfl) (by decide) ?_
    refine am_iadd (am_dec tmL_law_5 2 rfl) ?_
    refine am_sld (j := i + 1) hE (am_dec tmL_law_5 3 rfl) (k_iz i 1) (by omega) hL ?_
    refine am_aload_n (am_dec tmL_law_5 4 rfl) rfl rfl ?_
    refine am_iload (am_dec tmL_law_5 5 rfl) rfl ?_
    refine am_iconst (v := (2 : Int32)) (am_dec tmL_law_5 6 rfl) (by decide) ?_
    refine am_iadd (am_dec tmL_law_5 7 rfl) ?_
    refine am_sld (j := i + 2) hE (am_dec tmL_law_5 8 rfl) (k_iz i 2) (by omega) hL ?_
    refine am_callV1 (As := [.int (am_x E (i + 1)), .int (am_x E (i + 2))]) (st := []) hE (am_dec tmL_law_5 9 rfl) ok_X12_place rfl lmL_192 in_X12_place se_X12_place sh_117 cf12 (c_X12_place hE a2) rfl (by decide) (Nat.le_of_ble_eq_true rfl) hc hs rfl ?_
    refine am_istore (lv' := [(0, .ref 0), (1, .ref 16), (2, .ref 117), (3, .ref 2637), (4, .int (Int32.ofNat i)), (5, .int (0 : Int32)), (6, .int v)]) (am_dec tmL_law_5 10 rfl) (by decide) rfl ?_
    refine am_aload_n (am_dec tmL_law_5 11 rfl) rfl rfl ?_
    refine am_callV1 (As := []) (st := []) hE (am_dec tmL_law_5 12 rfl) ok_X12_thrown rfl lmL_169 in_X12_thrown se_X12_thrown sh_117 cf12 (c_X12_thrown hE hth) rfl (by decide) (Nat.le_of_ble_eq_true rfl) hc hs rfl ?_
    refine am_iload (am_dec tmL_law_5 13 rfl) rfl ?_
    refine am_icmp_eq (tgt := 710) (am_dec tmL_law_5 14 rfl) (by decide) (fun _ => ?_) (fun h => absurd rfl h)
    refine am_iload (am_dec tmL_law_5 17 rfl) rfl ?_
    refine am_if_ne (tgt := 727) (am_dec tmL_law_5 18 rfl) (by decide) (fun h => absurd rfl h) (fun _ => ?_)
    refine am_aload_n (am_dec tmL_law_5 19 rfl) rfl rfl ?_
    refine am_iconst (v := (0 : Int32)) (am_dec tmL_law_5 20 rfl) (by decide) ?_
    refine am_lald2 (n := 1) (i := 0) (v := v.toInt64) hE (am_dec tmL_law_5 21 rfl) shq_2637 (hld.trans (congrArg some a5)) ?_
    refine am_iload (am_dec tmL_law_5 22 rfl) rfl ?_
    refine am_i2l (am_dec tmL_law_5 23 rfl) ?_
    refine am_lcmp (am_dec tmL_law_5 24 rfl) ?_
    refine am_if_eq (tgt := 727) (am_dec tmL_law_5 25 rfl) (by decide) (fun _ => ?_) (fun h => absurd (k_cmp _) h)
    refine am_goto (tgt := 3717) (am_dec tmL_law_5 28 rfl) (by decide) ?_
    refine am_pick [0, 1, 2, 3, 4] rfl ?_
    exact k
  · rcases j with _ | j
    · cases b0
      refine ⟨D2, b4, fun o G' D' k => ?_⟩
      have hth : f_X12_thrown D2 = some (Int32.ofNat 1) := by rw [← b3]; rfl
      refine am_aload_n (am_dec tmL_law_4 44 rfl) rfl rfl ?_
      refine am_aload_n (am_dec tmL_law_4 45 rfl) rfl rfl ?_
      refine am_iload (am_dec tmL_law_4 46 rfl) rfl ?_
      refine am_iconst (v := (1 : Int32)) (am_dec tmL_law_4 47 rfl) (by decide) ?_
      refine am_iadd (am_dec tmL_law_4 48 rfl) ?_
      refine am_sld (j := i + 1) hE (am_dec tmL_law_4 49 rfl) (k_iz i 1) (by omega) hL ?_
      refine am_aload_n (am_dec tmL_law_4 50 rfl) rfl rfl ?_
      refine am_iload (am_dec tmL_law_4 51 rfl) rfl ?_
      refine am_iconst (v := (2 : Int32)) (am_dec tmL_law_4 52 rfl) (by decide) ?_
      refine am_iadd (am_dec tmL_law_4 53 rfl) ?_
      refine am_sld (j := i + 2) hE (am_dec tmL_law_4 54 rfl) (k_iz i 2) (by omega) hL ?_
      refine am_aload_n (am_dec tmL_law_4 55 rfl) rfl rfl ?_
      refine am_callSH (As := [.ref 16, .int (am_x E (i + 1)), .int (am_x E (i + 2)), .ref 2637]) (st := []) (am_dec tmL_law_4 56 rfl) ok_L_place (fun h => nomatch h) lmL_190 st_L_place (xw_place_1 hE b1) rfl (by decide) (Nat.le_of_ble_eq_true rfl) hc hs rfl ?_
      refine am_istore (lv' := [(0, .ref 0), (1, .ref 16), (2, .ref 117), (3, .ref 2637), (4, .int (Int32.ofNat i)), (5, .int (1 : Int32))]) (am_dec tmL_law_4 57 rfl) (by decide) rfl ?_
      refine am_aload_n (am_dec tmL_law_4 58 rfl) rfl rfl ?_
      refine am_aload_n (am_dec tmL_law_4 59 rfl) rfl rfl ?_
      refine am_iload (am_dec tmL_law_5 0 rfl) rfl ?_
      refine am_iconst (v := (1 : Int32)) (am_dec tmL_law_5 1 rfl) (by decide) ?_
      refine am_iadd (am_dec tmL_law_5 2 rfl) ?_
      refine am_sld (j := i + 1) hE (am_dec tmL_law_5 3 rfl) (k_iz i 1) (by omega) hL ?_
      refine am_aload_n (am_dec tmL_law_5 4 rfl) rfl rfl ?_
      refine am_iload (am_dec tmL_law_5 5 rfl) rfl ?_
      refine am_iconst (v := (2 : Int32)) (am_dec tmL_law_5 6 rfl) (by decide) ?_
      refine am_iadd (am_dec tmL_law_5 7 rfl) ?_
      refine am_sld (j := i + 2) hE (am_dec tmL_law_5 8 rfl) (k_iz i 2) (by omega) hL ?_
      refine am_callV1 (As := [.int (am_x E (i + 1)), .int (am_x E (i + 2))]) (st := []) hE (am_dec tmL_law_5 9 rfl) ok_X12_place rfl lmL_192 in_X12_place se_X12_place sh_117 cf12 (c_X12_place hE b2) rfl (by decide) (Nat.le_of_ble_eq_true rfl) hc hs rfl ?_
      refine am_istore (lv' := [(0, .ref 0), (1, .ref 16), (2, .ref 117), (3, .ref 2637), (4, .int (Int32.ofNat i)), (5, .int (1 : Int32)), (6, .int u)]) (am_dec tmL_law_5 10 rfl) (by decide) rfl ?_
      refine am_aload_n (am_dec tmL_law_5 11 rfl) rfl rfl ?_
      refine am_callV1 (As := []) (st := []) hE (am_dec tmL_law_5 12 rfl) ok_X12_thrown rfl lmL_169 in_X12_thrown se_X12_thrown sh_117 cf12 (c_X12_thrown hE hth) rfl (by decide) (Nat.le_of_ble_eq_true rfl) hc hs rfl ?_
      refine am_iload (am_dec tmL_law_5 13 rfl) rfl ?_
      refine am_icmp_eq (tgt := 710) (am_dec tmL_law_5 14 rfl) (by decide) (fun _ => ?_) (fun h => absurd rfl h)
      refine am_iload (am_dec tmL_law_5 17 rfl) rfl ?_
      refine am_if_ne (tgt := 727) (am_dec tmL_law_5 18 rfl) (by decide) (fun _ => ?_) (fun h => absurd h (by decide))
      refine am_goto (tgt := 3717) (am_dec tmL_law_5 28 rfl) (by decide) ?_
      refine am_pick [0, 1, 2, 3, 4] rfl ?_
      exact k
    · cases b0
set_option maxRecDepth 100000 in
set_option maxHeartbeats 4000000 in
theorem lw_where {E : am_E} (hE : am_EH E) {D : am_D} (q : k_Q D D) {mc ms cu su i : Nat} (hL : am_L E ≤ 3072) (hi : i + 6 ≤ am_L E) (hc : cu + 1 ≤ mc) (hs : su + 6 ≤ ms) : ∃ D1, k_Q D1 D1 ∧ ∀ (o : am_O) (G' : am_G) (D' : am_D), am_S E mL_law 12 mc ms o G' D' (cu + 1) (su + 6) 3717 [(0, .ref 0), (1, .ref 16), (2, .ref 117), (3, .ref 2637), (4, .int (Int32.ofNat i))] [] am_G0 D1 → am_S E mL_law 12 mc ms o G' D' cu su 730 [(0, .ref 0), (1, .ref 16), (2, .ref 117), (3, .ref 2637), (4, .int (Int32.ofNat i))] [] am_G0 D := by
  rcases k_joinE (f1 := fun D => k_lf D (f_X11_where (am_x E (i + 1)) (am_x E (i + 2)) D)) (f2 := fun D => f_X12_where (am_x E (i + 1)) (am_x E (i + 2)) D) (ex := ["java/lang/IndexOutOfBoundsException"]) (fun v => v.toInt64) (fun D E9 h => op_where h (am_x E (i + 1)) (am_x E (i + 2))) q with ⟨D1, D2, v, a1, a2, a3, a4, a5⟩ | ⟨D1, D2, u, j, nm, b0, b1, b2, b3, b4⟩
  · refine ⟨D2, a4, fun o G' D' k => ?_⟩
    have hth : f_X12_thrown D2 = some (0 : Int32) := by rw [← a3]; rfl
    have hld : am_gL D2 2637 1 0 = some (D2.2 2637 0) := k_gl (k := 0) (by decide) (by decide)
    have hcu : ∀ _ : Unit, cu + 1 ≤ mc := fun _ => hc
    have hsu : ∀ _ : Unit, su + 6 ≤ ms := fun _ => hs
    refine am_aload_n (am_dec tmL_law_5 29 rfl) rfl rfl ?_
    refine am_aload_n (am_dec tmL_law_5 30 rfl) rfl rfl ?_
    refine am_iload (am_dec tmL_law_5 31 rfl) rfl ?_
    refine am_iconst (v := (1 : Int32)) (am_dec tmL_law_5 32 rfl) (by decide) ?_
    refine am_iadd (am_dec tmL_law_5 33 rfl) ?_
    refine am_sld (j := i + 1) hE (am_dec tmL_law_5 34 rfl) (k_iz i 1) (by omega) hL ?_
    refine am_aload_n (am_dec tmL_law_5 35 rfl) rfl rfl ?_
    refine am_iload (am_dec tmL_law_5 36 rfl) rfl ?_
    refine am_iconst (v := (2 : Int32)) (am_dec tmL_law_5 37 rfl) (by decide) ?_
    refine am_iadd (am_dec tmL_law_5 38 rfl) ?_
    refine am_sld (j := i + 2) hE (am_dec tmL_law_5 39 rfl) (k_iz i 2) (by omega) hL ?_
    refine am_aload_n (am_dec tmL_law_5 40 rfl) rfl rfl ?_
    refine am_callSH (As := [.ref 16, .int (am_x E (i + 1)), .int (am_x E (i + 2)), .ref 2637]) (st := []) (am_dec tmL_law_5 41 rfl) ok_L_where (fun h => nomatch h) lmL_193 st_L_where (cw_where hE a1) rfl (by decide) (Nat.le_of_ble_eq_true rfl) hc hs rfl ?_
    refine am_istore (lv' := [(0, .ref 0), (1, .ref 16), (2, .ref 117), (3, .ref 2637), (4, .int (Int32.ofNat i)), (5, .int (0 : Int32))]) (am_dec tmL_law_5 42 rfl) (by decide) rfl ?_
    refine am_aload_n (am_dec tmL_law_5 43 rfl) rfl rfl ?_
    refine am_aload_n (am_dec tmL_law_5 44 rfl) rfl rfl ?_
    refine am_iload (am_dec tmL_law_5 45 rfl) rfl ?_
    refine am_iconst (v := (1 : Int32)) (am_dec tmL_law_5 46 rfl) (by decide) ?_
    refine am_iadd (am_dec tmL_law_5 47 rfl) ?_
    refine am_sld (j := i + 1) hE (am_dec tmL_law_5 48 rfl) (k_iz i 1) (by omega) hL ?_
    refine am_aload_n (am_dec tmL_law_5 49 rfl) rfl rfl ?_
    refine am_iload (am_dec tmL_law_5 50 rfl) rfl ?_
    refine am_iconst (v := (2 : Int32)) (am_dec tmL_law_5 51 rfl) (by decide) ?_
    refine am_iadd (am_dec tmL_law_5 52 rfl) ?_
    refine am_sld (j := i + 2) hE (am_dec tmL_law_5 53 rfl) (k_iz i 2) (by omega) hL ?_
    refine am_callV1 (As := [.int (am_x E (i + 1)), .int (am_x E (i + 2))]) (st := []) hE (am_dec tmL_law_5 54 rfl) ok_X12_where rfl lmL_195 in_X12_where se_X12_where sh_117 cf12 (c_X12_where hE a2) rfl (by decide) (Nat.le_of_ble_eq_true rfl) hc hs rfl ?_
    refine am_istore (lv' := [(0, .ref 0), (1, .ref 16), (2, .ref 117), (3, .ref 2637), (4, .int (Int32.ofNat i)), (5, .int (0 : Int32)), (6, .int v)]) (am_dec tmL_law_5 55 rfl) (by decide) rfl ?_
    refine am_aload_n (am_dec tmL_law_5 56 rfl) rfl rfl ?_
    refine am_callV1 (As := []) (st := []) hE (am_dec tmL_law_5 57 rfl) ok_X12_thrown rfl lmL_169 in_X12_thrown se_X12_thrown sh_117 cf12 (c_X12_thrown hE hth) rfl (by decide) (Nat.le_of_ble_eq_true rfl) hc hs rfl ?_
    refine am_iload (am_dec tmL_law_5 58 rfl) rfl ?_
    refine am_icmp_eq (tgt := 778) (am_dec tmL_law_5 59 rfl) (by decide) (fun _ => ?_) (fun h => absurd rfl h)
    refine am_iload (am_dec tmL_law_6 2 rfl) rfl ?_
    refine am_if_ne (tgt := 795) (am_dec tmL_law_6 3 rfl) (by decide) (fun h => absurd rfl h) (fun _ => ?_)
    refine am_aload_n (am_dec tmL_law_6 4 rfl) rfl rfl ?_
    refine am_iconst (v := (0 : Int32)) (am_dec tmL_law_6 5 rfl) (by decide) ?_
    refine am_lald2 (n := 1) (i := 0) (v := v.toInt64) hE (am_dec tmL_law_6 6 rfl) shq_2637 (hld.trans (congrArg some a5)) ?_
    refine am_iload (am_dec tmL_law_6 7 rfl) rfl ?_
    refine am_i2l (am_dec tmL_law_6 8 rfl) ?_
    refine am_lcmp (am_dec tmL_law_6 9 rfl) ?_
    refine am_if_eq (tgt := 795) (am_dec tmL_law_6 10 rfl) (by decide) (fun _ => ?_) (fun h => absurd (k_cmp _) h)
    refine am_goto (tgt := 3717) (am_dec tmL_law_6 13 rfl) (by decide) ?_
    refine am_pick [0, 1, 2, 3, 4] rfl ?_
    exact k
  · rcases j with _ | j
    · cases b0
      refine ⟨D2, b4, fun o G' D' k => ?_⟩
      have hth : f_X12_thrown D2 = some (Int32.ofNat 1) := by rw [← b3]; rfl
      refine am_aload_n (am_dec tmL_law_5 29 rfl) rfl rfl ?_
      refine am_aload_n (am_dec tmL_law_5 30 rfl) rfl rfl ?_
      refine am_iload (am_dec tmL_law_5 31 rfl) rfl ?_
      refine am_iconst (v := (1 : Int32)) (am_dec tmL_law_5 32 rfl) (by decide) ?_
      refine am_iadd (am_dec tmL_law_5 33 rfl) ?_
      refine am_sld (j := i + 1) hE (am_dec tmL_law_5 34 rfl) (k_iz i 1) (by omega) hL ?_
      refine am_aload_n (am_dec tmL_law_5 35 rfl) rfl rfl ?_
      refine am_iload (am_dec tmL_law_5 36 rfl) rfl ?_
      refine am_iconst (v := (2 : Int32)) (am_dec tmL_law_5 37 rfl) (by decide) ?_
      refine am_iadd (am_dec tmL_law_5 38 rfl) ?_
      refine am_sld (j := i + 2) hE (am_dec tmL_law_5 39 rfl) (k_iz i 2) (by omega) hL ?_
      refine am_aload_n (am_dec tmL_law_5 40 rfl) rfl rfl ?_
      refine am_callSH (As := [.ref 16, .int (am_x E (i + 1)), .int (am_x E (i + 2)), .ref 2637]) (st := []) (am_dec tmL_law_5 41 rfl) ok_L_where (fun h => nomatch h) lmL_193 st_L_where (xw_where_1 hE b1) rfl (by decide) (Nat.le_of_ble_eq_true rfl) hc hs rfl ?_
      refine am_istore (lv' := [(0, .ref 0), (1, .ref 16), (2, .ref 117), (3, .ref 2637), (4, .int (Int32.ofNat i)), (5, .int (1 : Int32))]) (am_dec tmL_law_5 42 rfl) (by decide) rfl ?_
      refine am_aload_n (am_dec tmL_law_5 43 rfl) rfl rfl ?_
      refine am_aload_n (am_dec tmL_law_5 44 rfl) rfl rfl ?_
      refine am_iload (am_dec tmL_law_5 45 rfl) rfl ?_
      refine am_iconst (v := (1 : Int32)) (am_dec tmL_law_5 46 rfl) (by decide) ?_
      refine am_iadd (am_dec tmL_law_5 47 rfl) ?_
      refine am_sld (j := i + 1) hE (am_dec tmL_law_5 48 rfl) (k_iz i 1) (by omega) hL ?_
      refine am_aload_n (am_dec tmL_law_5 49 rfl) rfl rfl ?_
      refine am_iload (am_dec tmL_law_5 50 rfl) rfl ?_
      refine am_iconst (v := (2 : Int32)) (am_dec tmL_law_5 51 rfl) (by decide) ?_
      refine am_iadd (am_dec tmL_law_5 52 rfl) ?_
      refine am_sld (j := i + 2) hE (am_dec tmL_law_5 53 rfl) (k_iz i 2) (by omega) hL ?_
      refine am_callV1 (As := [.int (am_x E (i + 1)), .int (am_x E (i + 2))]) (st := []) hE (am_dec tmL_law_5 54 rfl) ok_X12_where rfl lmL_195 in_X12_where se_X12_where sh_117 cf12 (c_X12_where hE b2) rfl (by decide) (Nat.le_of_ble_eq_true rfl) hc hs rfl ?_
      refine am_istore (lv' := [(0, .ref 0), (1, .ref 16), (2, .ref 117), (3, .ref 2637), (4, .int (Int32.ofNat i)), (5, .int (1 : Int32)), (6, .int u)]) (am_dec tmL_law_5 55 rfl) (by decide) rfl ?_
      refine am_aload_n (am_dec tmL_law_5 56 rfl) rfl rfl ?_
      refine am_callV1 (As := []) (st := []) hE (am_dec tmL_law_5 57 rfl) ok_X12_thrown rfl lmL_169 in_X12_thrown se_X12_thrown sh_117 cf12 (c_X12_thrown hE hth) rfl (by decide) (Nat.le_of_ble_eq_true rfl) hc hs rfl ?_
      refine am_iload (am_dec tmL_law_5 58 rfl) rfl ?_
      refine am_icmp_eq (tgt := 778) (am_dec tmL_law_5 59 rfl) (by decide) (fun _ => ?_) (fun h => absurd rfl h)
      refine am_iload (am_dec tmL_law_6 2 rfl) rfl ?_
      refine am_if_ne (tgt := 795) (am_dec tmL_law_6 3 rfl) (by decide) (fun _ => ?_) (fun h => absurd h (by decide))
      refine am_goto (tgt := 3717) (am_dec tmL_law_6 13 rfl) (by decide) ?_
      refine am_pick [0, 1, 2, 3, 4] rfl ?_
      exact k
    · cases b0
set_option maxRecDepth 100000 in
set_option maxHeartbeats 4000000 in
theorem lw_pieces {E : am_E} (hE : am_EH E) {D : am_D} (q : k_Q D D) {mc ms cu su i : Nat} (hL : am_L E ≤ 3072) (hi : i + 6 ≤ am_L E) (hc : cu + 1 ≤ mc) (hs : su + 6 ≤ ms) : ∃ D1, k_Q D1 D1 ∧ ∀ (o : am_O) (G' : am_G) (D' : am_D), am_S E mL_law 12 mc ms o G' D' (cu + 1) (su + 6) 3717 [(0, .ref 0), (1, .ref 16), (2, .ref 117), (3, .ref 2637), (4, .int (Int32.ofNat i))] [] am_G0 D1 → am_S E mL_law 12 mc ms o G' D' cu su 798 [(0, .ref 0), (1, .ref 16), (2, .ref 117), (3, .ref 2637), (4, .int (Int32.ofNat i))] [] am_G0 D := by
  rcases k_joinE (f1 := fun D => f_X11_pieces (am_x E (i + 1)) (am_x E (i + 2)) (am_x E (i + 3)) D) (f2 := fun D => f_X12_pieces (am_x E (i + 1)) (am_x E (i + 2)) (am_x E (i + 3)) D) (ex := ["java/lang/IllegalArgumentException"]) (fun v => v.toInt64) (fun D E9 h => op_pieces h (am_x E (i + 1)) (am_x E (i + 2)) (am_x E (i + 3))) q with ⟨D1, D2, v, a1, a2, a3, a4, a5⟩ | ⟨D1, D2, u, j, nm, b0, b1, b2, b3, b4⟩
  · refine ⟨D2, a4, fun o G' D' k => ?_⟩
    have hth : f_X12_thrown D2 = some (0 : Int32) := by rw [← a3]; rfl
    have hld : am_gL D2 2637 1 0 = some (D2.2 2637 0) := k_gl (k := 0) (by decide) (by decide)
    have hcu : ∀ _ : Unit, cu + 1 ≤ mc := fun _ => hc
    have hsu : ∀ _ : Unit, su + 6 ≤ ms := fun _ => hs
    refine am_aload_n (am_dec tmL_law_6 14 rfl) rfl rfl ?_
    refine am_aload_n (am_dec tmL_law_6 15 rfl) rfl rfl ?_
    refine am_iload (am_dec tmL_law_6 16 rfl) rfl ?_
    refine am_iconst (v := (1 : Int32)) (am_dec tmL_law_6 17 rfl) (by decide) ?_
    refine am_iadd (am_dec tmL_law_6 18 rfl) ?_
    refine am_sld (j := i + 1) hE (am_dec tmL_law_6 19 rfl) (k_iz i 1) (by omega) hL ?_
    refine am_aload_n (am_dec tmL_law_6 20 rfl) rfl rfl ?_
    refine am_iload (am_dec tmL_law_6 21 rfl) rfl ?_
    refine am_iconst (v := (2 : Int32)) (am_dec tmL_law_6 22 rfl) (by decide) ?_
    refine am_iadd (am_dec tmL_law_6 23 rfl) ?_
    refine am_sld (j := i + 2) hE (am_dec tmL_law_6 24 rfl) (k_iz i 2) (by omega) hL ?_
    refine am_aload_n (am_dec tmL_law_6 25 rfl) rfl rfl ?_
    refine am_iload (am_dec tmL_law_6 26 rfl) rfl ?_
    refine am_iconst (v := (3 : Int32)) (am_dec tmL_law_6 27 rfl) (by decide) ?_
    refine am_iadd (am_dec tmL_law_6 28 rfl) ?_
    refine am_sld (j := i + 3) hE (am_dec tmL_law_6 29 rfl) (k_iz i 3) (by omega) hL ?_
    refine am_aload_n (am_dec tmL_law_6 30 rfl) rfl rfl ?_
    refine am_callSH (As := [.ref 16, .int (am_x E (i + 1)), .int (am_x E (i + 2)), .int (am_x E (i + 3)), .ref 2637]) (st := []) (am_dec tmL_law_6 31 rfl) ok_L_pieces (fun h => nomatch h) lmL_196 st_L_pieces (cw_pieces hE a1) rfl (by decide) (Nat.le_of_ble_eq_true rfl) hc hs rfl ?_
    refine am_istore (lv' := [(0, .ref 0), (1, .ref 16), (2, .ref 117), (3, .ref 2637), (4, .int (Int32.ofNat i)), (5, .int (0 : Int32))]) (am_dec tmL_law_6 32 rfl) (by decide) rfl ?_
    refine am_aload_n (am_dec tmL_law_6 33 rfl) rfl rfl ?_
    refine am_aload_n (am_dec tmL_law_6 34 rfl) rfl rfl ?_
    refine am_iload (am_dec tmL_law_6 35 rfl) rfl ?_
    refine am_iconst (v := (1 : Int32)) (am_dec tmL_law_6 36 rfl) (by decide) ?_
    refine am_iadd (am_dec tmL_law_6 37 rfl) ?_
    refine am_sld (j := i + 1) hE (am_dec tmL_law_6 38 rfl) (k_iz i 1) (by omega) hL ?_
    refine am_aload_n (am_dec tmL_law_6 39 rfl) rfl rfl ?_
    refine am_iload (am_dec tmL_law_6 40 rfl) rfl ?_
    refine am_iconst (v := (2 : Int32)) (am_dec tmL_law_6 41 rfl) (by decide) ?_
    refine am_iadd (am_dec tmL_law_6 42 rfl) ?_
    refine am_sld (j := i + 2) hE (am_dec tmL_law_6 43 rfl) (k_iz i 2) (by omega) hL ?_
    refine am_aload_n (am_dec tmL_law_6 44 rfl) rfl rfl ?_
    refine am_iload (am_dec tmL_law_6 45 rfl) rfl ?_
    refine am_iconst (v := (3 : Int32)) (am_dec tmL_law_6 46 rfl) (by decide) ?_
    refine am_iadd (am_dec tmL_law_6 47 rfl) ?_
    refine am_sld (j := i + 3) hE (am_dec tmL_law_6 48 rfl) (k_iz i 3) (by omega) hL ?_
    refine am_callV1 (As := [.int (am_x E (i + 1)), .int (am_x E (i + 2)), .int (am_x E (i + 3))]) (st := []) hE (am_dec tmL_law_6 49 rfl) ok_X12_pieces rfl lmL_199 in_X12_pieces se_X12_pieces sh_117 cf12 (c_X12_pieces hE a2) rfl (by decide) (Nat.le_of_ble_eq_true rfl) hc hs rfl ?_
    refine am_istore (lv' := [(0, .ref 0), (1, .ref 16), (2, .ref 117), (3, .ref 2637), (4, .int (Int32.ofNat i)), (5, .int (0 : Int32)), (6, .int v)]) (am_dec tmL_law_6 50 rfl) (by decide) rfl ?_
    refine am_aload_n (am_dec tmL_law_6 51 rfl) rfl rfl ?_
    refine am_callV1 (As := []) (st := []) hE (am_dec tmL_law_6 52 rfl) ok_X12_thrown rfl lmL_169 in_X12_thrown se_X12_thrown sh_117 cf12 (c_X12_thrown hE hth) rfl (by decide) (Nat.le_of_ble_eq_true rfl) hc hs rfl ?_
    refine am_iload (am_dec tmL_law_6 53 rfl) rfl ?_
    refine am_icmp_eq (tgt := 858) (am_dec tmL_law_6 54 rfl) (by decide) (fun _ => ?_) (fun h => absurd rfl h)
    refine am_iload (am_dec tmL_law_6 57 rfl) rfl ?_
    refine am_if_ne (tgt := 875) (am_dec tmL_law_6 58 rfl) (by decide) (fun h => absurd rfl h) (fun _ => ?_)
    refine am_aload_n (am_dec tmL_law_6 59 rfl) rfl rfl ?_
    refine am_iconst (v := (0 : Int32)) (am_dec tmL_law_7 0 rfl) (by decide) ?_
    refine am_lald2 (n := 1) (i := 0) (v := v.toInt64) hE (am_dec tmL_law_7 1 rfl) shq_2637 (hld.trans (congrArg some a5)) ?_
    refine am_iload (am_dec tmL_law_7 2 rfl) rfl ?_
    refine am_i2l (am_dec tmL_law_7 3 rfl) ?_
    refine am_lcmp (am_dec tmL_law_7 4 rfl) ?_
    refine am_if_eq (tgt := 875) (am_dec tmL_law_7 5 rfl) (by decide) (fun _ => ?_) (fun h => absurd (k_cmp _) h)
    refine am_goto (tgt := 3717) (am_dec tmL_law_7 8 rfl) (by decide) ?_
    refine am_pick [0, 1, 2, 3, 4] rfl ?_
    exact k
  · rcases j with _ | j
    · cases b0
      refine ⟨D2, b4, fun o G' D' k => ?_⟩
      have hth : f_X12_thrown D2 = some (Int32.ofNat 1) := by rw [← b3]; rfl
      refine am_aload_n (am_dec tmL_law_6 14 rfl) rfl rfl ?_
      refine am_aload_n (am_dec tmL_law_6 15 rfl) rfl rfl ?_
      refine am_iload (am_dec tmL_law_6 16 rfl) rfl ?_
      refine am_iconst (v := (1 : Int32)) (am_dec tmL_law_6 17 rfl) (by decide) ?_
      refine am_iadd (am_dec tmL_law_6 18 rfl) ?_
      refine am_sld (j := i + 1) hE (am_dec tmL_law_6 19 rfl) (k_iz i 1) (by omega) hL ?_
      refine am_aload_n (am_dec tmL_law_6 20 rfl) rfl rfl ?_
      refine am_iload (am_dec tmL_law_6 21 rfl) rfl ?_
      refine am_iconst (v := (2 : Int32)) (am_dec tmL_law_6 22 rfl) (by decide) ?_
      refine am_iadd (am_dec tmL_law_6 23 rfl) ?_
      refine am_sld (j := i + 2) hE (am_dec tmL_law_6 24 rfl) (k_iz i 2) (by omega) hL ?_
      refine am_aload_n (am_dec tmL_law_6 25 rfl) rfl rfl ?_
      refine am_iload (am_dec tmL_law_6 26 rfl) rfl ?_
      refine am_iconst (v := (3 : Int32)) (am_dec tmL_law_6 27 rfl) (by decide) ?_
      refine am_iadd (am_dec tmL_law_6 28 rfl) ?_
      refine am_sld (j := i + 3) hE (am_dec tmL_law_6 29 rfl) (k_iz i 3) (by omega) hL ?_
      refine am_aload_n (am_dec tmL_law_6 30 rfl) rfl rfl ?_
      refine am_callSH (As := [.ref 16, .int (am_x E (i + 1)), .int (am_x E (i + 2)), .int (am_x E (i + 3)), .ref 2637]) (st := []) (am_dec tmL_law_6 31 rfl) ok_L_pieces (fun h => nomatch h) lmL_196 st_L_pieces (xw_pieces_1 hE b1) rfl (by decide) (Nat.le_of_ble_eq_true rfl) hc hs rfl ?_
      refine am_istore (lv' := [(0, .ref 0), (1, .ref 16), (2, .ref 117), (3, .ref 2637), (4, .int (Int32.ofNat i)), (5, .int (1 : Int32))]) (am_dec tmL_law_6 32 rfl) (by decide) rfl ?_
      refine am_aload_n (am_dec tmL_law_6 33 rfl) rfl rfl ?_
      refine am_aload_n (am_dec tmL_law_6 34 rfl) rfl rfl ?_
      refine am_iload (am_dec tmL_law_6 35 rfl) rfl ?_
      refine am_iconst (v := (1 : Int32)) (am_dec tmL_law_6 36 rfl) (by decide) ?_
      refine am_iadd (am_dec tmL_law_6 37 rfl) ?_
      refine am_sld (j := i + 1) hE (am_dec tmL_law_6 38 rfl) (k_iz i 1) (by omega) hL ?_
      refine am_aload_n (am_dec tmL_law_6 39 rfl) rfl rfl ?_
      refine am_iload (am_dec tmL_law_6 40 rfl) rfl ?_
      refine am_iconst (v := (2 : Int32)) (am_dec tmL_law_6 41 rfl) (by decide) ?_
      refine am_iadd (am_dec tmL_law_6 42 rfl) ?_
      refine am_sld (j := i + 2) hE (am_dec tmL_law_6 43 rfl) (k_iz i 2) (by omega) hL ?_
      refine am_aload_n (am_dec tmL_law_6 44 rfl) rfl rfl ?_
      refine am_iload (am_dec tmL_law_6 45 rfl) rfl ?_
      refine am_iconst (v := (3 : Int32)) (am_dec tmL_law_6 46 rfl) (by decide) ?_
      refine am_iadd (am_dec tmL_law_6 47 rfl) ?_
      refine am_sld (j := i + 3) hE (am_dec tmL_law_6 48 rfl) (k_iz i 3) (by omega) hL ?_
      refine am_callV1 (As := [.int (am_x E (i + 1)), .int (am_x E (i + 2)), .int (am_x E (i + 3))]) (st := []) hE (am_dec tmL_law_6 49 rfl) ok_X12_pieces rfl lmL_199 in_X12_pieces se_X12_pieces sh_117 cf12 (c_X12_pieces hE b2) rfl (by decide) (Nat.le_of_ble_eq_true rfl) hc hs rfl ?_
      refine am_istore (lv' := [(0, .ref 0), (1, .ref 16), (2, .ref 117), (3, .ref 2637), (4, .int (Int32.ofNat i)), (5, .int (1 : Int32)), (6, .int u)]) (am_dec tmL_law_6 50 rfl) (by decide) rfl ?_
      refine am_aload_n (am_dec tmL_law_6 51 rfl) rfl rfl ?_
      refine am_callV1 (As := []) (st := []) hE (am_dec tmL_law_6 52 rfl) ok_X12_thrown rfl lmL_169 in_X12_thrown se_X12_thrown sh_117 cf12 (c_X12_thrown hE hth) rfl (by decide) (Nat.le_of_ble_eq_true rfl) hc hs rfl ?_
      refine am_iload (am_dec tmL_law_6 53 rfl) rfl ?_
      refine am_icmp_eq (tgt := 858) (am_dec tmL_law_6 54 rfl) (by decide) (fun _ => ?_) (fun h => absurd rfl h)
      refine am_iload (am_dec tmL_law_6 57 rfl) rfl ?_
      refine am_if_ne (tgt := 875) (am_dec tmL_law_6 58 rfl) (by decide) (fun _ => ?_) (fun h => absurd h (by decide))
      refine am_goto (tgt := 3717) (am_dec tmL_law_7 8 rfl) (by decide) ?_
      refine am_pick [0, 1, 2, 3, 4] rfl ?_
      exact k
    · cases b0
set_option maxRecDepth 100000 in
set_option maxHeartbeats 4000000 in
theorem lw_draw {E : am_E} (hE : am_EH E) {D : am_D} (q : k_Q D D) {mc ms cu su i : Nat} (hL : am_L E ≤ 3072) (hi : i + 6 ≤ am_L E) (hc : cu + 1 ≤ mc) (hs : su + 6 ≤ ms) : ∃ D1, k_Q D1 D1 ∧ ∀ (o : am_O) (G' : am_G) (D' : am_D), am_S E mL_law 12 mc ms o G' D' (cu + 1) (su + 6) 3717 [(0, .ref 0), (1, .ref 16), (2, .ref 117), (3, .ref 2637), (4, .int (Int32.ofNat i))] [] am_G0 D1 → am_S E mL_law 12 mc ms o G' D' cu su 878 [(0, .ref 0), (1, .ref 16), (2, .ref 117), (3, .ref 2637), (4, .int (Int32.ofNat i))] [] am_G0 D := by
  rcases k_joinE (f1 := fun D => f_X11_draw (am_x E (i + 1)) (am_x E (i + 2)) D) (f2 := fun D => f_X12_draw (am_x E (i + 1)) (am_x E (i + 2)) D) (ex := ["java/util/NoSuchElementException", "java/lang/IndexOutOfBoundsException", "java/lang/IllegalStateException"]) (fun v => v.toInt64) (fun D E9 h => op_draw h (am_x E (i + 1)) (am_x E (i + 2))) q with ⟨D1, D2, v, a1, a2, a3, a4, a5⟩ | ⟨D1, D2, u, j, nm, b0, b1, b2, b3, b4⟩
  · refine ⟨D2, a4, fun o G' D' k => ?_⟩
    have hth : f_X12_thrown D2 = some (0 : Int32) := by rw [← a3]; rfl
    have hld : am_gL D2 2637 1 0 = some (D2.2 2637 0) := k_gl (k := 0) (by decide) (by decide)
    have hcu : ∀ _ : Unit, cu + 1 ≤ mc := fun _ => hc
    have hsu : ∀ _ : Unit, su + 6 ≤ ms := fun _ => hs
    refine am_aload_n (am_dec tmL_law_7 9 rfl) rfl rfl ?_
    refine am_aload_n (am_dec tmL_law_7 10 rfl) rfl rfl ?_
    refine am_iload (am_dec tmL_law_7 11 rfl) rfl ?_
    refine am_iconst (v := (1 : Int32)) (am_dec tmL_law_7 12 rfl) (by decide) ?_
    refine am_iadd (am_dec tmL_law_7 13 rfl) ?_
    refine am_sld (j := i + 1) hE (am_dec tmL_law_7 14 rfl) (k_iz i 1) (by omega) hL ?_
    refine am_aload_n (am_dec tmL_law_7 15 rfl) rfl rfl ?_
    refine am_iload (am_dec tmL_law_7 16 rfl) rfl ?_
    refine am_iconst (v := (2 : Int32)) (am_dec tmL_law_7 17 rfl) (by decide) ?_
    refine am_iadd (am_dec tmL_law_7 18 rfl) ?_
    refine am_sld (j := i + 2) hE (am_dec tmL_law_7 19 rfl) (k_iz i 2) (by omega) hL ?_
    refine am_aload_n (am_dec tmL_law_7 20 rfl) rfl rfl ?_
    refine am_callSH (As := [.ref 16, .int (am_x E (i + 1)), .int (am_x E (i + 2)), .ref 2637]) (st := []) (am_dec tmL_law_7 21 rfl) ok_L_draw (fun h => nomatch h) lmL_200 st_L_draw (cw_draw hE a1) rfl (by decide) (Nat.le_of_ble_eq_true rfl) hc hs rfl ?_
    refine am_istore (lv' := [(0, .ref 0), (1, .ref 16), (2, .ref 117), (3, .ref 2637), (4, .int (Int32.ofNat i)), (5, .int (0 : Int32))]) (am_dec tmL_law_7 22 rfl) (by decide) rfl ?_
    refine am_aload_n (am_dec tmL_law_7 23 rfl) rfl rfl ?_
    refine am_aload_n (am_dec tmL_law_7 24 rfl) rfl rfl ?_
    refine am_iload (am_dec tmL_law_7 25 rfl) rfl ?_
    refine am_iconst (v := (1 : Int32)) (am_dec tmL_law_7 26 rfl) (by decide) ?_
    refine am_iadd (am_dec tmL_law_7 27 rfl) ?_
    refine am_sld (j := i + 1) hE (am_dec tmL_law_7 28 rfl) (k_iz i 1) (by omega) hL ?_
    refine am_aload_n (am_dec tmL_law_7 29 rfl) rfl rfl ?_
    refine am_iload (am_dec tmL_law_7 30 rfl) rfl ?_
    refine am_iconst (v := (2 : Int32)) (am_dec tmL_law_7 31 rfl) (by decide) ?_
    refine am_iadd (am_dec tmL_law_7 32 rfl) ?_
    refine am_sld (j := i + 2) hE (am_dec tmL_law_7 33 rfl) (k_iz i 2) (by omega) hL ?_
    refine am_callV1 (As := [.int (am_x E (i + 1)), .int (am_x E (i + 2))]) (st := []) hE (am_dec tmL_law_7 34 rfl) ok_X12_draw rfl lmL_202 in_X12_draw se_X12_draw sh_117 cf12 (c_X12_draw hE a2) rfl (by decide) (Nat.le_of_ble_eq_true rfl) hc hs rfl ?_
    refine am_istore (lv' := [(0, .ref 0), (1, .ref 16), (2, .ref 117), (3, .ref 2637), (4, .int (Int32.ofNat i)), (5, .int (0 : Int32)), (6, .int v)]) (am_dec tmL_law_7 35 rfl) (by decide) rfl ?_
    refine am_aload_n (am_dec tmL_law_7 36 rfl) rfl rfl ?_
    refine am_callV1 (As := []) (st := []) hE (am_dec tmL_law_7 37 rfl) ok_X12_thrown rfl lmL_169 in_X12_thrown se_X12_thrown sh_117 cf12 (c_X12_thrown hE hth) rfl (by decide) (Nat.le_of_ble_eq_true rfl) hc hs rfl ?_
    refine am_iload (am_dec tmL_law_7 38 rfl) rfl ?_
    refine am_icmp_eq (tgt := 926) (am_dec tmL_law_7 39 rfl) (by decide) (fun _ => ?_) (fun h => absurd rfl h)
    refine am_iload (am_dec tmL_law_7 42 rfl) rfl ?_
    refine am_if_ne (tgt := 943) (am_dec tmL_law_7 43 rfl) (by decide) (fun h => absurd rfl h) (fun _ => ?_)
    refine am_aload_n (am_dec tmL_law_7 44 rfl) rfl rfl ?_
    refine am_iconst (v := (0 : Int32)) (am_dec tmL_law_7 45 rfl) (by decide) ?_
    refine am_lald2 (n := 1) (i := 0) (v := v.toInt64) hE (am_dec tmL_law_7 46 rfl) shq_2637 (hld.trans (congrArg some a5)) ?_
    refine am_iload (am_dec tmL_law_7 47 rfl) rfl ?_
    refine am_i2l (am_dec tmL_law_7 48 rfl) ?_
    refine am_lcmp (am_dec tmL_law_7 49 rfl) ?_
    refine am_if_eq (tgt := 943) (am_dec tmL_law_7 50 rfl) (by decide) (fun _ => ?_) (fun h => absurd (k_cmp _) h)
    refine am_goto (tgt := 3717) (am_dec tmL_law_7 53 rfl) (by decide) ?_
    refine am_pick [0, 1, 2, 3, 4] rfl ?_
    exact k
  · rcases j with _ | _ | _ | j
    · cases b0
      refine ⟨D2, b4, fun o G' D' k => ?_⟩
      have hth : f_X12_thrown D2 = some (Int32.ofNat 1) := by rw [← b3]; rfl
      refine am_aload_n (am_dec tmL_law_7 9 rfl) rfl rfl ?_
      refine am_aload_n (am_dec tmL_law_7 10 rfl) rfl rfl ?_
      refine am_iload (am_dec tmL_law_7 11 rfl) rfl ?_
      refine am_iconst (v := (1 : Int32)) (am_dec tmL_law_7 12 rfl) (by decide) ?_
      refine am_iadd (am_dec tmL_law_7 13 rfl) ?_
      refine am_sld (j := i + 1) hE (am_dec tmL_law_7 14 rfl) (k_iz i 1) (by omega) hL ?_
      refine am_aload_n (am_dec tmL_law_7 15 rfl) rfl rfl ?_
      refine am_iload (am_dec tmL_law_7 16 rfl) rfl ?_
      refine am_iconst (v := (2 : Int32)) (am_dec tmL_law_7 17 rfl) (by decide) ?_
      refine am_iadd (am_dec tmL_law_7 18 rfl) ?_
      refine am_sld (j := i + 2) hE (am_dec tmL_law_7 19 rfl) (k_iz i 2) (by omega) hL ?_
      refine am_aload_n (am_dec tmL_law_7 20 rfl) rfl rfl ?_
      refine am_callSH (As := [.ref 16, .int (am_x E (i + 1)), .int (am_x E (i + 2)), .ref 2637]) (st := []) (am_dec tmL_law_7 21 rfl) ok_L_draw (fun h => nomatch h) lmL_200 st_L_draw (xw_draw_1 hE b1) rfl (by decide) (Nat.le_of_ble_eq_true rfl) hc hs rfl ?_
      refine am_istore (lv' := [(0, .ref 0), (1, .ref 16), (2, .ref 117), (3, .ref 2637), (4, .int (Int32.ofNat i)), (5, .int (1 : Int32))]) (am_dec tmL_law_7 22 rfl) (by decide) rfl ?_
      refine am_aload_n (am_dec tmL_law_7 23 rfl) rfl rfl ?_
      refine am_aload_n (am_dec tmL_law_7 24 rfl) rfl rfl ?_
      refine am_iload (am_dec tmL_law_7 25 rfl) rfl ?_
      refine am_iconst (v := (1 : Int32)) (am_dec tmL_law_7 26 rfl) (by decide) ?_
      refine am_iadd (am_dec tmL_law_7 27 rfl) ?_
      refine am_sld (j := i + 1) hE (am_dec tmL_law_7 28 rfl) (k_iz i 1) (by omega) hL ?_
      refine am_aload_n (am_dec tmL_law_7 29 rfl) rfl rfl ?_
      refine am_iload (am_dec tmL_law_7 30 rfl) rfl ?_
      refine am_iconst (v := (2 : Int32)) (am_dec tmL_law_7 31 rfl) (by decide) ?_
      refine am_iadd (am_dec tmL_law_7 32 rfl) ?_
      refine am_sld (j := i + 2) hE (am_dec tmL_law_7 33 rfl) (k_iz i 2) (by omega) hL ?_
      refine am_callV1 (As := [.int (am_x E (i + 1)), .int (am_x E (i + 2))]) (st := []) hE (am_dec tmL_law_7 34 rfl) ok_X12_draw rfl lmL_202 in_X12_draw se_X12_draw sh_117 cf12 (c_X12_draw hE b2) rfl (by decide) (Nat.le_of_ble_eq_true rfl) hc hs rfl ?_
      refine am_istore (lv' := [(0, .ref 0), (1, .ref 16), (2, .ref 117), (3, .ref 2637), (4, .int (Int32.ofNat i)), (5, .int (1 : Int32)), (6, .int u)]) (am_dec tmL_law_7 35 rfl) (by decide) rfl ?_
      refine am_aload_n (am_dec tmL_law_7 36 rfl) rfl rfl ?_
      refine am_callV1 (As := []) (st := []) hE (am_dec tmL_law_7 37 rfl) ok_X12_thrown rfl lmL_169 in_X12_thrown se_X12_thrown sh_117 cf12 (c_X12_thrown hE hth) rfl (by decide) (Nat.le_of_ble_eq_true rfl) hc hs rfl ?_
      refine am_iload (am_dec tmL_law_7 38 rfl) rfl ?_
      refine am_icmp_eq (tgt := 926) (am_dec tmL_law_7 39 rfl) (by decide) (fun _ => ?_) (fun h => absurd rfl h)
      refine am_iload (am_dec tmL_law_7 42 rfl) rfl ?_
      refine am_if_ne (tgt := 943) (am_dec tmL_law_7 43 rfl) (by decide) (fun _ => ?_) (fun h => absurd h (by decide))
      refine am_goto (tgt := 3717) (am_dec tmL_law_7 53 rfl) (by decide) ?_
      refine am_pick [0, 1, 2, 3, 4] rfl ?_
      exact k
    · cases b0
      refine ⟨D2, b4, fun o G' D' k => ?_⟩
      have hth : f_X12_thrown D2 = some (Int32.ofNat 2) := by rw [← b3]; rfl
      refine am_aload_n (am_dec tmL_law_7 9 rfl) rfl rfl ?_
      refine am_aload_n (am_dec tmL_law_7 10 rfl) rfl rfl ?_
      refine am_iload (am_dec tmL_law_7 11 rfl) rfl ?_
      refine am_iconst (v := (1 : Int32)) (am_dec tmL_law_7 12 rfl) (by decide) ?_
      refine am_iadd (am_dec tmL_law_7 13 rfl) ?_
      refine am_sld (j := i + 1) hE (am_dec tmL_law_7 14 rfl) (k_iz i 1) (by omega) hL ?_
      refine am_aload_n (am_dec tmL_law_7 15 rfl) rfl rfl ?_
      refine am_iload (am_dec tmL_law_7 16 rfl) rfl ?_
      refine am_iconst (v := (2 : Int32)) (am_dec tmL_law_7 17 rfl) (by decide) ?_
      refine am_iadd (am_dec tmL_law_7 18 rfl) ?_
      refine am_sld (j := i + 2) hE (am_dec tmL_law_7 19 rfl) (k_iz i 2) (by omega) hL ?_
      refine am_aload_n (am_dec tmL_law_7 20 rfl) rfl rfl ?_
      refine am_callSH (As := [.ref 16, .int (am_x E (i + 1)), .int (am_x E (i + 2)), .ref 2637]) (st := []) (am_dec tmL_law_7 21 rfl) ok_L_draw (fun h => nomatch h) lmL_200 st_L_draw (xw_draw_2 hE b1) rfl (by decide) (Nat.le_of_ble_eq_true rfl) hc hs rfl ?_
      refine am_istore (lv' := [(0, .ref 0), (1, .ref 16), (2, .ref 117), (3, .ref 2637), (4, .int (Int32.ofNat i)), (5, .int (2 : Int32))]) (am_dec tmL_law_7 22 rfl) (by decide) rfl ?_
      refine am_aload_n (am_dec tmL_law_7 23 rfl) rfl rfl ?_
      refine am_aload_n (am_dec tmL_law_7 24 rfl) rfl rfl ?_
      refine am_iload (am_dec tmL_law_7 25 rfl) rfl ?_
      refine am_iconst (v := (1 : Int32)) (am_dec tmL_law_7 26 rfl) (by decide) ?_
      refine am_iadd (am_dec tmL_law_7 27 rfl) ?_
      refine am_sld (j := i + 1) hE (am_dec tmL_law_7 28 rfl) (k_iz i 1) (by omega) hL ?_
      refine am_aload_n (am_dec tmL_law_7 29 rfl) rfl rfl ?_
      refine am_iload (am_dec tmL_law_7 30 rfl) rfl ?_
      refine am_iconst (v := (2 : Int32)) (am_dec tmL_law_7 31 rfl) (by decide) ?_
      refine am_iadd (am_dec tmL_law_7 32 rfl) ?_
      refine am_sld (j := i + 2) hE (am_dec tmL_law_7 33 rfl) (k_iz i 2) (by omega) hL ?_
      refine am_callV1 (As := [.int (am_x E (i + 1)), .int (am_x E (i + 2))]) (st := []) hE (am_dec tmL_law_7 34 rfl) ok_X12_draw rfl lmL_202 in_X12_draw se_X12_draw sh_117 cf12 (c_X12_draw hE b2) rfl (by decide) (Nat.le_of_ble_eq_true rfl) hc hs rfl ?_
      refine am_istore (lv' := [(0, .ref 0), (1, .ref 16), (2, .ref 117), (3, .ref 2637), (4, .int (Int32.ofNat i)), (5, .int (2 : Int32)), (6, .int u)]) (am_dec tmL_law_7 35 rfl) (by decide) rfl ?_
      refine am_aload_n (am_dec tmL_law_7 36 rfl) rfl rfl ?_
      refine am_callV1 (As := []) (st := []) hE (am_dec tmL_law_7 37 rfl) ok_X12_thrown rfl lmL_169 in_X12_thrown se_X12_thrown sh_117 cf12 (c_X12_thrown hE hth) rfl (by decide) (Nat.le_of_ble_eq_true rfl) hc hs rfl ?_
      refine am_iload (am_dec tmL_law_7 38 rfl) rfl ?_
      refine am_icmp_eq (tgt := 926) (am_dec tmL_law_7 39 rfl) (by decide) (fun _ => ?_) (fun h => absurd rfl h)
      refine am_iload (am_dec tmL_law_7 42 rfl) rfl ?_
      refine am_if_ne (tgt := 943) (am_dec tmL_law_7 43 rfl) (by decide) (fun _ => ?_) (fun h => absurd h (by decide))
      refine am_goto (tgt := 3717) (am_dec tmL_law_7 53 rfl) (by decide) ?_
      refine am_pick [0, 1, 2, 3, 4] rfl ?_
      exact k
    · cases b0
      refine ⟨D2, b4, fun o G' D' k => ?_⟩
      have hth : f_X12_thrown D2 = some (Int32.ofNat 3) := by rw [← b3]; rfl
      refine am_aload_n (am_dec tmL_law_7 9 rfl) rfl rfl ?_
      refine am_aload_n (am_dec tmL_law_7 10 rfl) rfl rfl ?_
      refine am_iload (am_dec tmL_law_7 11 rfl) rfl ?_
      refine am_iconst (v := (1 : Int32)) (am_dec tmL_law_7 12 rfl) (by decide) ?_
      refine am_iadd (am_dec tmL_law_7 13 rfl) ?_
      refine am_sld (j := i + 1) hE (am_dec tmL_law_7 14 rfl) (k_iz i 1) (by omega) hL ?_
      refine am_aload_n (am_dec tmL_law_7 15 rfl) rfl rfl ?_
      refine am_iload (am_dec tmL_law_7 16 rfl) rfl ?_
      refine am_iconst (v := (2 : Int32)) (am_dec tmL_law_7 17 rfl) (by decide) ?_
      refine am_iadd (am_dec tmL_law_7 18 rfl) ?_
      refine am_sld (j := i + 2) hE (am_dec tmL_law_7 19 rfl) (k_iz i 2) (by omega) hL ?_
      refine am_aload_n (am_dec tmL_law_7 20 rfl) rfl rfl ?_
      refine am_callSH (As := [.ref 16, .int (am_x E (i + 1)), .int (am_x E (i + 2)), .ref 2637]) (st := []) (am_dec tmL_law_7 21 rfl) ok_L_draw (fun h => nomatch h) lmL_200 st_L_draw (xw_draw_3 hE b1) rfl (by decide) (Nat.le_of_ble_eq_true rfl) hc hs rfl ?_
      refine am_istore (lv' := [(0, .ref 0), (1, .ref 16), (2, .ref 117), (3, .ref 2637), (4, .int (Int32.ofNat i)), (5, .int (3 : Int32))]) (am_dec tmL_law_7 22 rfl) (by decide) rfl ?_
      refine am_aload_n (am_dec tmL_law_7 23 rfl) rfl rfl ?_
      refine am_aload_n (am_dec tmL_law_7 24 rfl) rfl rfl ?_
      refine am_iload (am_dec tmL_law_7 25 rfl) rfl ?_
      refine am_iconst (v := (1 : Int32)) (am_dec tmL_law_7 26 rfl) (by decide) ?_
      refine am_iadd (am_dec tmL_law_7 27 rfl) ?_
      refine am_sld (j := i + 1) hE (am_dec tmL_law_7 28 rfl) (k_iz i 1) (by omega) hL ?_
      refine am_aload_n (am_dec tmL_law_7 29 rfl) rfl rfl ?_
      refine am_iload (am_dec tmL_law_7 30 rfl) rfl ?_
      refine am_iconst (v := (2 : Int32)) (am_dec tmL_law_7 31 rfl) (by decide) ?_
      refine am_iadd (am_dec tmL_law_7 32 rfl) ?_
      refine am_sld (j := i + 2) hE (am_dec tmL_law_7 33 rfl) (k_iz i 2) (by omega) hL ?_
      refine am_callV1 (As := [.int (am_x E (i + 1)), .int (am_x E (i + 2))]) (st := []) hE (am_dec tmL_law_7 34 rfl) ok_X12_draw rfl lmL_202 in_X12_draw se_X12_draw sh_117 cf12 (c_X12_draw hE b2) rfl (by decide) (Nat.le_of_ble_eq_true rfl) hc hs rfl ?_
      refine am_istore (lv' := [(0, .ref 0), (1, .ref 16), (2, .ref 117), (3, .ref 2637), (4, .int (Int32.ofNat i)), (5, .int (3 : Int32)), (6, .int u)]) (am_dec tmL_law_7 35 rfl) (by decide) rfl ?_
      refine am_aload_n (am_dec tmL_law_7 36 rfl) rfl rfl ?_
      refine am_callV1 (As := []) (st := []) hE (am_dec tmL_law_7 37 rfl) ok_X12_thrown rfl lmL_169 in_X12_thrown se_X12_thrown sh_117 cf12 (c_X12_thrown hE hth) rfl (by decide) (Nat.le_of_ble_eq_true rfl) hc hs rfl ?_
      refine am_iload (am_dec tmL_law_7 38 rfl) rfl ?_
      refine am_icmp_eq (tgt := 926) (am_dec tmL_law_7 39 rfl) (by decide) (fun _ => ?_) (fun h => absurd rfl h)
      refine am_iload (am_dec tmL_law_7 42 rfl) rfl ?_
      refine am_if_ne (tgt := 943) (am_dec tmL_law_7 43 rfl) (by decide) (fun _ => ?_) (fun h => absurd h (by decide))
      refine am_goto (tgt := 3717) (am_dec tmL_law_7 53 rfl) (by decide) ?_
      refine am_pick [0, 1, 2, 3, 4] rfl ?_
      exact k
    · cases b0
set_option maxRecDepth 100000 in
set_option maxHeartbeats 4000000 in
theorem lw_sharp {E : am_E} (hE : am_EH E) {D : am_D} (q : k_Q D D) {mc ms cu su i : Nat} (hL : am_L E ≤ 3072) (hi : i + 6 ≤ am_L E) (hc : cu + 1 ≤ mc) (hs : su + 6 ≤ ms) : ∃ D1, k_Q D1 D1 ∧ ∀ (o : am_O) (G' : am_G) (D' : am_D), am_S E mL_law 12 mc ms o G' D' (cu + 1) (su + 6) 3717 [(0, .ref 0), (1, .ref 16), (2, .ref 117), (3, .ref 2637), (4, .int (Int32.ofNat i))] [] am_G0 D1 → am_S E mL_law 12 mc ms o G' D' cu su 946 [(0, .ref 0), (1, .ref 16), (2, .ref 117), (3, .ref 2637), (4, .int (Int32.ofNat i))] [] am_G0 D := by
  rcases k_joinE (f1 := fun D => f_X11_sharp (am_x E (i + 1)) (am_x E (i + 2)) D) (f2 := fun D => f_X12_sharp (am_x E (i + 1)) (am_x E (i + 2)) D) (ex := ["java/util/NoSuchElementException", "java/lang/IndexOutOfBoundsException", "java/lang/IllegalStateException"]) (fun v => v.toInt64) (fun D E9 h => op_sharp h (am_x E (i + 1)) (am_x E (i + 2))) q with ⟨D1, D2, v, a1, a2, a3, a4, a5⟩ | ⟨D1, D2, u, j, nm, b0, b1, b2, b3, b4⟩
  · refine ⟨D2, a4, fun o G' D' k => ?_⟩
    have hth : f_X12_thrown D2 = some (0 : Int32) := by rw [← a3]; rfl
    have hld : am_gL D2 2637 1 0 = some (D2.2 2637 0) := k_gl (k := 0) (by decide) (by decide)
    have hcu : ∀ _ : Unit, cu + 1 ≤ mc := fun _ => hc
    have hsu : ∀ _ : Unit, su + 6 ≤ ms := fun _ => hs
    refine am_aload_n (am_dec tmL_law_7 54 rfl) rfl rfl ?_
    refine am_aload_n (am_dec tmL_law_7 55 rfl) rfl rfl ?_
    refine am_iload (am_dec tmL_law_7 56 rfl) rfl ?_
    refine am_iconst (v := (1 : Int32)) (am_dec tmL_law_7 57 rfl) (by decide) ?_
    refine am_iadd (am_dec tmL_law_7 58 rfl) ?_
    refine am_sld (j := i + 1) hE (am_dec tmL_law_7 59 rfl) (k_iz i 1) (by omega) hL ?_
    refine am_aload_n (am_dec tmL_law_8 0 rfl) rfl rfl ?_
    refine am_iload (am_dec tmL_law_8 1 rfl) rfl ?_
    refine am_iconst (v := (2 : Int32)) (am_dec tmL_law_8 2 rfl) (by decide) ?_
    refine am_iadd (am_dec tmL_law_8 3 rfl) ?_
    refine am_sld (j := i + 2) hE (am_dec tmL_law_8 4 rfl) (k_iz i 2) (by omega) hL ?_
    refine am_aload_n (am_dec tmL_law_8 5 rfl) rfl rfl ?_
    refine am_callSH (As := [.ref 16, .int (am_x E (i + 1)), .int (am_x E (i + 2)), .ref 2637]) (st := []) (am_dec tmL_law_8 6 rfl) ok_L_sharp (fun h => nomatch h) lmL_203 st_L_sharp (cw_sharp hE a1) rfl (by decide) (Nat.le_of_ble_eq_true rfl) hc hs rfl ?_
    refine am_istore (lv' := [(0, .ref 0), (1, .ref 16), (2, .ref 117), (3, .ref 2637), (4, .int (Int32.ofNat i)), (5, .int (0 : Int32))]) (am_dec tmL_law_8 7 rfl) (by decide) rfl ?_
    refine am_aload_n (am_dec tmL_law_8 8 rfl) rfl rfl ?_
    refine am_aload_n (am_dec tmL_law_8 9 rfl) rfl rfl ?_
    refine am_iload (am_dec tmL_law_8 10 rfl) rfl ?_
    refine am_iconst (v := (1 : Int32)) (am_dec tmL_law_8 11 rfl) (by decide) ?_
    refine am_iadd (am_dec tmL_law_8 12 rfl) ?_
    refine am_sld (j := i + 1) hE (am_dec tmL_law_8 13 rfl) (k_iz i 1) (by omega) hL ?_
    refine am_aload_n (am_dec tmL_law_8 14 rfl) rfl rfl ?_
    refine am_iload (am_dec tmL_law_8 15 rfl) rfl ?_
    refine am_iconst (v := (2 : Int32)) (am_dec tmL_law_8 16 rfl) (by decide) ?_
    refine am_iadd (am_dec tmL_law_8 17 rfl) ?_
    refine am_sld (j := i + 2) hE (am_dec tmL_law_8 18 rfl) (k_iz i 2) (by omega) hL ?_
    refine am_callV1 (As := [.int (am_x E (i + 1)), .int (am_x E (i + 2))]) (st := []) hE (am_dec tmL_law_8 19 rfl) ok_X12_sharp rfl lmL_205 in_X12_sharp se_X12_sharp sh_117 cf12 (c_X12_sharp hE a2) rfl (by decide) (Nat.le_of_ble_eq_true rfl) hc hs rfl ?_
    refine am_istore (lv' := [(0, .ref 0), (1, .ref 16), (2, .ref 117), (3, .ref 2637), (4, .int (Int32.ofNat i)), (5, .int (0 : Int32)), (6, .int v)]) (am_dec tmL_law_8 20 rfl) (by decide) rfl ?_
    refine am_aload_n (am_dec tmL_law_8 21 rfl) rfl rfl ?_
    refine am_callV1 (As := []) (st := []) hE (am_dec tmL_law_8 22 rfl) ok_X12_thrown rfl lmL_169 in_X12_thrown se_X12_thrown sh_117 cf12 (c_X12_thrown hE hth) rfl (by decide) (Nat.le_of_ble_eq_true rfl) hc hs rfl ?_
    refine am_iload (am_dec tmL_law_8 23 rfl) rfl ?_
    refine am_icmp_eq (tgt := 994) (am_dec tmL_law_8 24 rfl) (by decide) (fun _ => ?_) (fun h => absurd rfl h)
    refine am_iload (am_dec tmL_law_8 27 rfl) rfl ?_
    refine am_if_ne (tgt := 1011) (am_dec tmL_law_8 28 rfl) (by decide) (fun h => absurd rfl h) (fun _ => ?_)
    refine am_aload_n (am_dec tmL_law_8 29 rfl) rfl rfl ?_
    refine am_iconst (v := (0 : Int32)) (am_dec tmL_law_8 30 rfl) (by decide) ?_
    refine am_lald2 (n := 1) (i := 0) (v := v.toInt64) hE (am_dec tmL_law_8 31 rfl) shq_2637 (hld.trans (congrArg some a5)) ?_
    refine am_iload (am_dec tmL_law_8 32 rfl) rfl ?_
    refine am_i2l (am_dec tmL_law_8 33 rfl) ?_
    refine am_lcmp (am_dec tmL_law_8 34 rfl) ?_
    refine am_if_eq (tgt := 1011) (am_dec tmL_law_8 35 rfl) (by decide) (fun _ => ?_) (fun h => absurd (k_cmp _) h)
    refine am_goto (tgt := 3717) (am_dec tmL_law_8 38 rfl) (by decide) ?_
    refine am_pick [0, 1, 2, 3, 4] rfl ?_
    exact k
  · rcases j with _ | _ | _ | j
    · cases b0
      refine ⟨D2, b4, fun o G' D' k => ?_⟩
      have hth : f_X12_thrown D2 = some (Int32.ofNat 1) := by rw [← b3]; rfl
      refine am_aload_n (am_dec tmL_law_7 54 rfl) rfl rfl ?_
      refine am_aload_n (am_dec tmL_law_7 55 rfl) rfl rfl ?_
      refine am_iload (am_dec tmL_law_7 56 rfl) rfl ?_
      refine am_iconst (v := (1 : Int32)) (am_dec tmL_law_7 57 rfl) (by decide) ?_
      refine am_iadd (am_dec tmL_law_7 58 rfl) ?_
      refine am_sld (j := i + 1) hE (am_dec tmL_law_7 59 rfl) (k_iz i 1) (by omega) hL ?_
      refine am_aload_n (am_dec tmL_law_8 0 rfl) rfl rfl ?_
      refine am_iload (am_dec tmL_law_8 1 rfl) rfl ?_
      refine am_iconst (v := (2 : Int32)) (am_dec tmL_law_8 2 rfl) (by decide) ?_
      refine am_iadd (am_dec tmL_law_8 3 rfl) ?_
      refine am_sld (j := i + 2) hE (am_dec tmL_law_8 4 rfl) (k_iz i 2) (by omega) hL ?_
      refine am_aload_n (am_dec tmL_law_8 5 rfl) rfl rfl ?_
      refine am_callSH (As := [.ref 16, .int (am_x E (i + 1)), .int (am_x E (i + 2)), .ref 2637]) (st := []) (am_dec tmL_law_8 6 rfl) ok_L_sharp (fun h => nomatch h) lmL_203 st_L_sharp (xw_sharp_1 hE b1) rfl (by decide) (Nat.le_of_ble_eq_true rfl) hc hs rfl ?_
      refine am_istore (lv' := [(0, .ref 0), (1, .ref 16), (2, .ref 117), (3, .ref 2637), (4, .int (Int32.ofNat i)), (5, .int (1 : Int32))]) (am_dec tmL_law_8 7 rfl) (by decide) rfl ?_
      refine am_aload_n (am_dec tmL_law_8 8 rfl) rfl rfl ?_
      refine am_aload_n (am_dec tmL_law_8 9 rfl) rfl rfl ?_
      refine am_iload (am_dec tmL_law_8 10 rfl) rfl ?_
      refine am_iconst (v := (1 : Int32)) (am_dec tmL_law_8 11 rfl) (by decide) ?_
      refine am_iadd (am_dec tmL_law_8 12 rfl) ?_
      refine am_sld (j := i + 1) hE (am_dec tmL_law_8 13 rfl) (k_iz i 1) (by omega) hL ?_
      refine am_aload_n (am_dec tmL_law_8 14 rfl) rfl rfl ?_
      refine am_iload (am_dec tmL_law_8 15 rfl) rfl ?_
      refine am_iconst (v := (2 : Int32)) (am_dec tmL_law_8 16 rfl) (by decide) ?_
      refine am_iadd (am_dec tmL_law_8 17 rfl) ?_
      refine am_sld (j := i + 2) hE (am_dec tmL_law_8 18 rfl) (k_iz i 2) (by omega) hL ?_
      refine am_callV1 (As := [.int (am_x E (i + 1)), .int (am_x E (i + 2))]) (st := []) hE (am_dec tmL_law_8 19 rfl) ok_X12_sharp rfl lmL_205 in_X12_sharp se_X12_sharp sh_117 cf12 (c_X12_sharp hE b2) rfl (by decide) (Nat.le_of_ble_eq_true rfl) hc hs rfl ?_
      refine am_istore (lv' := [(0, .ref 0), (1, .ref 16), (2, .ref 117), (3, .ref 2637), (4, .int (Int32.ofNat i)), (5, .int (1 : Int32)), (6, .int u)]) (am_dec tmL_law_8 20 rfl) (by decide) rfl ?_
      refine am_aload_n (am_dec tmL_law_8 21 rfl) rfl rfl ?_
      refine am_callV1 (As := []) (st := []) hE (am_dec tmL_law_8 22 rfl) ok_X12_thrown rfl lmL_169 in_X12_thrown se_X12_thrown sh_117 cf12 (c_X12_thrown hE hth) rfl (by decide) (Nat.le_of_ble_eq_true rfl) hc hs rfl ?_
      refine am_iload (am_dec tmL_law_8 23 rfl) rfl ?_
      refine am_icmp_eq (tgt := 994) (am_dec tmL_law_8 24 rfl) (by decide) (fun _ => ?_) (fun h => absurd rfl h)
      refine am_iload (am_dec tmL_law_8 27 rfl) rfl ?_
      refine am_if_ne (tgt := 1011) (am_dec tmL_law_8 28 rfl) (by decide) (fun _ => ?_) (fun h => absurd h (by decide))
      refine am_goto (tgt := 3717) (am_dec tmL_law_8 38 rfl) (by decide) ?_
      refine am_pick [0, 1, 2, 3, 4] rfl ?_
      exact k
    · cases b0
      refine ⟨D2, b4, fun o G' D' k => ?_⟩
      have hth : f_X12_thrown D2 = some (Int32.ofNat 2) := by rw [← b3]; rfl
      refine am_aload_n (am_dec tmL_law_7 54 rfl) rfl rfl ?_
      refine am_aload_n (am_dec tmL_law_7 55 rfl) rfl rfl ?_
      refine am_iload (am_dec tmL_law_7 56 rfl) rfl ?_
      refine am_iconst (v := (1 : Int32)) (am_dec tmL_law_7 57 rfl) (by decide) ?_
      refine am_iadd (am_dec tmL_law_7 58 rfl) ?_
      refine am_sld (j := i + 1) hE (am_dec tmL_law_7 59 rfl) (k_iz i 1) (by omega) hL ?_
      refine am_aload_n (am_dec tmL_law_8 0 rfl) rfl rfl ?_
      refine am_iload (am_dec tmL_law_8 1 rfl) rfl ?_
      refine am_iconst (v := (2 : Int32)) (am_dec tmL_law_8 2 rfl) (by decide) ?_
      refine am_iadd (am_dec tmL_law_8 3 rfl) ?_
      refine am_sld (j := i + 2) hE (am_dec tmL_law_8 4 rfl) (k_iz i 2) (by omega) hL ?_
      refine am_aload_n (am_dec tmL_law_8 5 rfl) rfl rfl ?_
      refine am_callSH (As := [.ref 16, .int (am_x E (i + 1)), .int (am_x E (i + 2)), .ref 2637]) (st := []) (am_dec tmL_law_8 6 rfl) ok_L_sharp (fun h => nomatch h) lmL_203 st_L_sharp (xw_sharp_2 hE b1) rfl (by decide) (Nat.le_of_ble_eq_true rfl) hc hs rfl ?_
      refine am_istore (lv' := [(0, .ref 0), (1, .ref 16), (2, .ref 117), (3, .ref 2637), (4, .int (Int32.ofNat i)), (5, .int (2 : Int32))]) (am_dec tmL_law_8 7 rfl) (by decide) rfl ?_
      refine am_aload_n (am_dec tmL_law_8 8 rfl) rfl rfl ?_
      refine am_aload_n (am_dec tmL_law_8 9 rfl) rfl rfl ?_
      refine am_iload (am_dec tmL_law_8 10 rfl) rfl ?_
      refine am_iconst (v := (1 : Int32)) (am_dec tmL_law_8 11 rfl) (by decide) ?_
      refine am_iadd (am_dec tmL_law_8 12 rfl) ?_
      refine am_sld (j := i + 1) hE (am_dec tmL_law_8 13 rfl) (k_iz i 1) (by omega) hL ?_
      refine am_aload_n (am_dec tmL_law_8 14 rfl) rfl rfl ?_
      refine am_iload (am_dec tmL_law_8 15 rfl) rfl ?_
      refine am_iconst (v := (2 : Int32)) (am_dec tmL_law_8 16 rfl) (by decide) ?_
      refine am_iadd (am_dec tmL_law_8 17 rfl) ?_
      refine am_sld (j := i + 2) hE (am_dec tmL_law_8 18 rfl) (k_iz i 2) (by omega) hL ?_
      refine am_callV1 (As := [.int (am_x E (i + 1)), .int (am_x E (i + 2))]) (st := []) hE (am_dec tmL_law_8 19 rfl) ok_X12_sharp rfl lmL_205 in_X12_sharp se_X12_sharp sh_117 cf12 (c_X12_sharp hE b2) rfl (by decide) (Nat.le_of_ble_eq_true rfl) hc hs rfl ?_
      refine am_istore (lv' := [(0, .ref 0), (1, .ref 16), (2, .ref 117), (3, .ref 2637), (4, .int (Int32.ofNat i)), (5, .int (2 : Int32)), (6, .int u)]) (am_dec tmL_law_8 20 rfl) (by decide) rfl ?_
      refine am_aload_n (am_dec tmL_law_8 21 rfl) rfl rfl ?_
      refine am_callV1 (As := []) (st := []) hE (am_dec tmL_law_8 22 rfl) ok_X12_thrown rfl lmL_169 in_X12_thrown se_X12_thrown sh_117 cf12 (c_X12_thrown hE hth) rfl (by decide) (Nat.le_of_ble_eq_true rfl) hc hs rfl ?_
      refine am_iload (am_dec tmL_law_8 23 rfl) rfl ?_
      refine am_icmp_eq (tgt := 994) (am_dec tmL_law_8 24 rfl) (by decide) (fun _ => ?_) (fun h => absurd rfl h)
      refine am_iload (am_dec tmL_law_8 27 rfl) rfl ?_
      refine am_if_ne (tgt := 1011) (am_dec tmL_law_8 28 rfl) (by decide) (fun _ => ?_) (fun h => absurd h (by decide))
      refine am_goto (tgt := 3717) (am_dec tmL_law_8 38 rfl) (by decide) ?_
      refine am_pick [0, 1, 2, 3, 4] rfl ?_
      exact k
    · cases b0
      refine ⟨D2, b4, fun o G' D' k => ?_⟩
      have hth : f_X12_thrown D2 = some (Int32.ofNat 3) := by rw [← b3]; rfl
      refine am_aload_n (am_dec tmL_law_7 54 rfl) rfl rfl ?_
      refine am_aload_n (am_dec tmL_law_7 55 rfl) rfl rfl ?_
      refine am_iload (am_dec tmL_law_7 56 rfl) rfl ?_
      refine am_iconst (v := (1 : Int32)) (am_dec tmL_law_7 57 rfl) (by decide) ?_
      refine am_iadd (am_dec tmL_law_7 58 rfl) ?_
      refine am_sld (j := i + 1) hE (am_dec tmL_law_7 59 rfl) (k_iz i 1) (by omega) hL ?_
      refine am_aload_n (am_dec tmL_law_8 0 rfl) rfl rfl ?_
      refine am_iload (am_dec tmL_law_8 1 rfl) rfl ?_
      refine am_iconst (v := (2 : Int32)) (am_dec tmL_law_8 2 rfl) (by decide) ?_
      refine am_iadd (am_dec tmL_law_8 3 rfl) ?_
      refine am_sld (j := i + 2) hE (am_dec tmL_law_8 4 rfl) (k_iz i 2) (by omega) hL ?_
      refine am_aload_n (am_dec tmL_law_8 5 rfl) rfl rfl ?_
      refine am_callSH (As := [.ref 16, .int (am_x E (i + 1)), .int (am_x E (i + 2)), .ref 2637]) (st := []) (am_dec tmL_law_8 6 rfl) ok_L_sharp (fun h => nomatch h) lmL_203 st_L_sharp (xw_sharp_3 hE b1) rfl (by decide) (Nat.le_of_ble_eq_true rfl) hc hs rfl ?_
      refine am_istore (lv' := [(0, .ref 0), (1, .ref 16), (2, .ref 117), (3, .ref 2637), (4, .int (Int32.ofNat i)), (5, .int (3 : Int32))]) (am_dec tmL_law_8 7 rfl) (by decide) rfl ?_
      refine am_aload_n (am_dec tmL_law_8 8 rfl) rfl rfl ?_
      refine am_aload_n (am_dec tmL_law_8 9 rfl) rfl rfl ?_
      refine am_iload (am_dec tmL_law_8 10 rfl) rfl ?_
      refine am_iconst (v := (1 : Int32)) (am_dec tmL_law_8 11 rfl) (by decide) ?_
      refine am_iadd (am_dec tmL_law_8 12 rfl) ?_
      refine am_sld (j := i + 1) hE (am_dec tmL_law_8 13 rfl) (k_iz i 1) (by omega) hL ?_
      refine am_aload_n (am_dec tmL_law_8 14 rfl) rfl rfl ?_
      refine am_iload (am_dec tmL_law_8 15 rfl) rfl ?_
      refine am_iconst (v := (2 : Int32)) (am_dec tmL_law_8 16 rfl) (by decide) ?_
      refine am_iadd (am_dec tmL_law_8 17 rfl) ?_
      refine am_sld (j := i + 2) hE (am_dec tmL_law_8 18 rfl) (k_iz i 2) (by omega) hL ?_
      refine am_callV1 (As := [.int (am_x E (i + 1)), .int (am_x E (i + 2))]) (st := []) hE (am_dec tmL_law_8 19 rfl) ok_X12_sharp rfl lmL_205 in_X12_sharp se_X12_sharp sh_117 cf12 (c_X12_sharp hE b2) rfl (by decide) (Nat.le_of_ble_eq_true rfl) hc hs rfl ?_
      refine am_istore (lv' := [(0, .ref 0), (1, .ref 16), (2, .ref 117), (3, .ref 2637), (4, .int (Int32.ofNat i)), (5, .int (3 : Int32)), (6, .int u)]) (am_dec tmL_law_8 20 rfl) (by decide) rfl ?_
      refine am_aload_n (am_dec tmL_law_8 21 rfl) rfl rfl ?_
      refine am_callV1 (As := []) (st := []) hE (am_dec tmL_law_8 22 rfl) ok_X12_thrown rfl lmL_169 in_X12_thrown se_X12_thrown sh_117 cf12 (c_X12_thrown hE hth) rfl (by decide) (Nat.le_of_ble_eq_true rfl) hc hs rfl ?_
      refine am_iload (am_dec tmL_law_8 23 rfl) rfl ?_
      refine am_icmp_eq (tgt := 994) (am_dec tmL_law_8 24 rfl) (by decide) (fun _ => ?_) (fun h => absurd rfl h)
      refine am_iload (am_dec tmL_law_8 27 rfl) rfl ?_
      refine am_if_ne (tgt := 1011) (am_dec tmL_law_8 28 rfl) (by decide) (fun _ => ?_) (fun h => absurd h (by decide))
      refine am_goto (tgt := 3717) (am_dec tmL_law_8 38 rfl) (by decide) ?_
      refine am_pick [0, 1, 2, 3, 4] rfl ?_
      exact k
    · cases b0
set_option maxRecDepth 100000 in
set_option maxHeartbeats 4000000 in
theorem lw_length {E : am_E} (hE : am_EH E) {D : am_D} (q : k_Q D D) {mc ms cu su i : Nat} (hL : am_L E ≤ 3072) (hi : i + 6 ≤ am_L E) (hc : cu + 1 ≤ mc) (hs : su + 6 ≤ ms) : ∃ D1, k_Q D1 D1 ∧ ∀ (o : am_O) (G' : am_G) (D' : am_D), am_S E mL_law 12 mc ms o G' D' (cu + 1) (su + 6) 3717 [(0, .ref 0), (1, .ref 16), (2, .ref 117), (3, .ref 2637), (4, .int (Int32.ofNat i))] [] am_G0 D1 → am_S E mL_law 12 mc ms o G' D' cu su 1014 [(0, .ref 0), (1, .ref 16), (2, .ref 117), (3, .ref 2637), (4, .int (Int32.ofNat i))] [] am_G0 D := by
  obtain ⟨D1, D2, v, a1, a2, a4⟩ := k_joinN (f1 := fun D => k_lv D (f_X11_length D)) (f2 := fun D => f_X12_length D) (fun D E9 h => op_length h) q
  obtain ⟨a1, rfl⟩ := k_lv_r a1
  refine ⟨D2, a4, fun o G' D' k => ?_⟩
  refine am_aload_n (am_dec tmL_law_8 39 rfl) rfl rfl ?_
  refine am_callV1 (As := []) (st := []) hE (am_dec tmL_law_8 40 rfl) ok_X11_length rfl lmL_206 in_X11_length se_X11_length sh_16 cf11 (c_X11_length hE a1) rfl (by decide) (Nat.le_of_ble_eq_true rfl) (Nat.le_trans (Nat.le_add_right _ 1) hc) (Nat.le_trans (Nat.le_add_right _ 6) hs) rfl ?_
  refine am_aload_n (am_dec tmL_law_8 41 rfl) rfl rfl ?_
  refine am_callV1 (As := []) (st := [.int v]) hE (am_dec tmL_law_8 42 rfl) ok_X12_length rfl lmL_209 in_X12_length se_X12_length sh_117 cf12 (c_X12_length hE a2) rfl (by decide) (Nat.le_of_ble_eq_true rfl) (Nat.le_trans (Nat.le_add_right _ 1) hc) (Nat.le_trans (Nat.le_add_right _ 6) hs) rfl ?_
  refine am_icmp_eq (tgt := 3717) (am_dec tmL_law_8 43 rfl) (by decide) (fun _ => ?_) (fun h => absurd rfl h)
  refine am_pick [0, 1, 2, 3, 4] rfl ?_
  exact am_wide (Nat.le_add_right _ _) (Nat.le_add_right _ _) k
set_option maxRecDepth 100000 in
set_option maxHeartbeats 4000000 in
theorem lw_result {E : am_E} (hE : am_EH E) {D : am_D} (q : k_Q D D) {mc ms cu su i : Nat} (hL : am_L E ≤ 3072) (hi : i + 6 ≤ am_L E) (hc : cu + 1 ≤ mc) (hs : su + 6 ≤ ms) : ∃ D1, k_Q D1 D1 ∧ ∀ (o : am_O) (G' : am_G) (D' : am_D), am_S E mL_law 12 mc ms o G' D' (cu + 1) (su + 6) 3717 [(0, .ref 0), (1, .ref 16), (2, .ref 117), (3, .ref 2637), (4, .int (Int32.ofNat i))] [] am_G0 D1 → am_S E mL_law 12 mc ms o G' D' cu su 1027 [(0, .ref 0), (1, .ref 16), (2, .ref 117), (3, .ref 2637), (4, .int (Int32.ofNat i))] [] am_G0 D := by
  obtain ⟨D1, D2, v, a1, a2, a4⟩ := k_joinN (f1 := fun D => k_lv D (f_X11_result (am_x E (i + 1)) D)) (f2 := fun D => f_X12_result (am_x E (i + 1)) D) (fun D E9 h => op_result h (am_x E (i + 1))) q
  obtain ⟨a1, rfl⟩ := k_lv_r a1
  refine ⟨D2, a4, fun o G' D' k => ?_⟩
  refine am_aload_n (am_dec tmL_law_8 46 rfl) rfl rfl ?_
  refine am_aload_n (am_dec tmL_law_8 47 rfl) rfl rfl ?_
  refine am_iload (am_dec tmL_law_8 48 rfl) rfl ?_
  refine am_iconst (v := (1 : Int32)) (am_dec tmL_law_8 49 rfl) (by decide) ?_
  refine am_iadd (am_dec tmL_law_8 50 rfl) ?_
  refine am_sld (j := i + 1) hE (am_dec tmL_law_8 51 rfl) (k_iz i 1) (by omega) hL ?_
  refine am_callV1 (As := [.int (am_x E (i + 1))]) (st := []) hE (am_dec tmL_law_8 52 rfl) ok_X11_result rfl lmL_210 in_X11_result se_X11_result sh_16 cf11 (c_X11_result hE a1) rfl (by decide) (Nat.le_of_ble_eq_true rfl) (Nat.le_trans (Nat.le_add_right _ 1) hc) (Nat.le_trans (Nat.le_add_right _ 6) hs) rfl ?_
  refine am_aload_n (am_dec tmL_law_8 53 rfl) rfl rfl ?_
  refine am_aload_n (am_dec tmL_law_8 54 rfl) rfl rfl ?_
  refine am_iload (am_dec tmL_law_8 55 rfl) rfl ?_
  refine am_iconst (v := (1 : Int32)) (am_dec tmL_law_8 56 rfl) (by decide) ?_
  refine am_iadd (am_dec tmL_law_8 57 rfl) ?_
  refine am_sld (j := i + 1) hE (am_dec tmL_law_8 58 rfl) (k_iz i 1) (by omega) hL ?_
  refine am_callV1 (As := [.int (am_x E (i + 1))]) (st := [.int v]) hE (am_dec tmL_law_8 59 rfl) ok_X12_result rfl lmL_213 in_X12_result se_X12_result sh_117 cf12 (c_X12_result hE a2) rfl (by decide) (Nat.le_of_ble_eq_true rfl) (Nat.le_trans (Nat.le_add_right _ 1) hc) (Nat.le_trans (Nat.le_add_right _ 6) hs) rfl ?_
  refine am_icmp_eq (tgt := 3717) (am_dec tmL_law_9 0 rfl) (by decide) (fun _ => ?_) (fun h => absurd rfl h)
  refine am_pick [0, 1, 2, 3, 4] rfl ?_
  exact am_wide (Nat.le_add_right _ _) (Nat.le_add_right _ _) k
set_option maxRecDepth 100000 in
set_option maxHeartbeats 4000000 in
theorem lw_seam {E : am_E} (hE : am_EH E) {D : am_D} (q : k_Q D D) {mc ms cu su i : Nat} (hL : am_L E ≤ 3072) (hi : i + 6 ≤ am_L E) (hc : cu + 1 ≤ mc) (hs : su + 6 ≤ ms) : ∃ D1, k_Q D1 D1 ∧ ∀ (o : am_O) (G' : am_G) (D' : am_D), am_S E mL_law 12 mc ms o G' D' (cu + 1) (su + 6) 3717 [(0, .ref 0), (1, .ref 16), (2, .ref 117), (3, .ref 2637), (4, .int (Int32.ofNat i))] [] am_G0 D1 → am_S E mL_law 12 mc ms o G' D' cu su 1052 [(0, .ref 0), (1, .ref 16), (2, .ref 117), (3, .ref 2637), (4, .int (Int32.ofNat i))] [] am_G0 D := by
  rcases k_joinE (f1 := fun D => k_lf D (f_X11_seam (am_x E (i + 1)) (am_x E (i + 2)) D)) (f2 := fun D => f_X12_seam (am_x E (i + 1)) (am_x E (i + 2)) D) (ex := ["java/lang/IllegalArgumentException"]) (fun v => v.toInt64) (fun D E9 h => op_seam h (am_x E (i + 1)) (am_x E (i + 2))) q with ⟨D1, D2, v, a1, a2, a3, a4, a5⟩ | ⟨D1, D2, u, j, nm, b0, b1, b2, b3, b4⟩
  · refine ⟨D2, a4, fun o G' D' k => ?_⟩
    have hth : f_X12_thrown D2 = some (0 : Int32) := by rw [← a3]; rfl
    have hld : am_gL D2 2637 1 0 = some (D2.2 2637 0) := k_gl (k := 0) (by decide) (by decide)
    have hcu : ∀ _ : Unit, cu + 1 ≤ mc := fun _ => hc
    have hsu : ∀ _ : Unit, su + 6 ≤ ms := fun _ => hs
    refine am_aload_n (am_dec tmL_law_9 3 rfl) rfl rfl ?_
    refine am_aload_n (am_dec tmL_law_9 4 rfl) rfl rfl ?_
    refine am_iload (am_dec tmL_law_9 5 rfl) rfl ?_
    refine am_iconst (v := (1 : Int32)) (am_dec tmL_law_9 6 rfl) (by decide) ?_
    refine am_iadd (am_dec tmL_law_9 7 rfl) ?_
    refine am_sld (j := i + 1) hE (am_dec tmL_law_9 8 rfl) (k_iz i 1) (by omega) hL ?_
    refine am_aload_n (am_dec tmL_law_9 9 rfl) rfl rfl ?_
    refine am_iload (am_dec tmL_law_9 10 rfl) rfl ?_
    refine am_iconst (v := (2 : Int32)) (am_dec tmL_law_9 11 rfl) (by decide) ?_
    refine am_iadd (am_dec tmL_law_9 12 rfl) ?_
    refine am_sld (j := i + 2) hE (am_dec tmL_law_9 13 rfl) (k_iz i 2) (by omega) hL ?_
    refine am_aload_n (am_dec tmL_law_9 14 rfl) rfl rfl ?_
    refine am_callSH (As := [.ref 16, .int (am_x E (i + 1)), .int (am_x E (i + 2)), .ref 2637]) (st := []) (am_dec tmL_law_9 15 rfl) ok_L_seam (fun h => nomatch h) lmL_214 st_L_seam (cw_seam hE a1) rfl (by decide) (Nat.le_of_ble_eq_true rfl) hc hs rfl ?_
    refine am_istore (lv' := [(0, .ref 0), (1, .ref 16), (2, .ref 117), (3, .ref 2637), (4, .int (Int32.ofNat i)), (5, .int (0 : Int32))]) (am_dec tmL_law_9 16 rfl) (by decide) rfl ?_
    refine am_aload_n (am_dec tmL_law_9 17 rfl) rfl rfl ?_
    refine am_aload_n (am_dec tmL_law_9 18 rfl) rfl rfl ?_
    refine am_iload (am_dec tmL_law_9 19 rfl) rfl ?_
    refine am_iconst (v := (1 : Int32)) (am_dec tmL_law_9 20 rfl) (by decide) ?_
    refine am_iadd (am_dec tmL_law_9 21 rfl) ?_
    refine am_sld (j := i + 1) hE (am_dec tmL_law_9 22 rfl) (k_iz i 1) (by omega) hL ?_
    refine am_aload_n (am_dec tmL_law_9 23 rfl) rfl rfl ?_
    refine am_iload (am_dec tmL_law_9 24 rfl) rfl ?_
    refine am_iconst (v := (2 : Int32)) (am_dec tmL_law_9 25 rfl) (by decide) ?_
    refine am_iadd (am_dec tmL_law_9 26 rfl) ?_
    refine am_sld (j := i + 2) hE (am_dec tmL_law_9 27 rfl) (k_iz i 2) (by omega) hL ?_
    refine am_callV1 (As := [.int (am_x E (i + 1)), .int (am_x E (i + 2))]) (st := []) hE (am_dec tmL_law_9 28 rfl) ok_X12_seam rfl lmL_216 in_X12_seam se_X12_seam sh_117 cf12 (c_X12_seam hE a2) rfl (by decide) (Nat.le_of_ble_eq_true rfl) hc hs rfl ?_
    refine am_istore (lv' := [(0, .ref 0), (1, .ref 16), (2, .ref 117), (3, .ref 2637), (4, .int (Int32.ofNat i)), (5, .int (0 : Int32)), (6, .int v)]) (am_dec tmL_law_9 29 rfl) (by decide) rfl ?_
    refine am_aload_n (am_dec tmL_law_9 30 rfl) rfl rfl ?_
    refine am_callV1 (As := []) (st := []) hE (am_dec tmL_law_9 31 rfl) ok_X12_thrown rfl lmL_169 in_X12_thrown se_X12_thrown sh_117 cf12 (c_X12_thrown hE hth) rfl (by decide) (Nat.le_of_ble_eq_true rfl) hc hs rfl ?_
    refine am_iload (am_dec tmL_law_9 32 rfl) rfl ?_
    refine am_icmp_eq (tgt := 1100) (am_dec tmL_law_9 33 rfl) (by decide) (fun _ => ?_) (fun h => absurd rfl h)
    refine am_iload (am_dec tmL_law_9 36 rfl) rfl ?_
    refine am_if_ne (tgt := 1117) (am_dec tmL_law_9 37 rfl) (by decide) (fun h => absurd rfl h) (fun _ => ?_)
    refine am_aload_n (am_dec tmL_law_9 38 rfl) rfl rfl ?_
    refine am_iconst (v := (0 : Int32)) (am_dec tmL_law_9 39 rfl) (by decide) ?_
    refine am_lald2 (n := 1) (i := 0) (v := v.toInt64) hE (am_dec tmL_law_9 40 rfl) shq_2637 (hld.trans (congrArg some a5)) ?_
    refine am_iload (am_dec tmL_law_9 41 rfl) rfl ?_
    refine am_i2l (am_dec tmL_law_9 42 rfl) ?_
    refine am_lcmp (am_dec tmL_law_9 43 rfl) ?_
    refine am_if_eq (tgt := 1117) (am_dec tmL_law_9 44 rfl) (by decide) (fun _ => ?_) (fun h => absurd (k_cmp _) h)
    refine am_goto (tgt := 3717) (am_dec tmL_law_9 47 rfl) (by decide) ?_
    refine am_pick [0, 1, 2, 3, 4] rfl ?_
    exact k
  · rcases j with _ | j
    · cases b0
      refine ⟨D2, b4, fun o G' D' k => ?_⟩
      have hth : f_X12_thrown D2 = some (Int32.ofNat 1) := by rw [← b3]; rfl
      refine am_aload_n (am_dec tmL_law_9 3 rfl) rfl rfl ?_
      refine am_aload_n (am_dec tmL_law_9 4 rfl) rfl rfl ?_
      refine am_iload (am_dec tmL_law_9 5 rfl) rfl ?_
      refine am_iconst (v := (1 : Int32)) (am_dec tmL_law_9 6 rfl) (by decide) ?_
      refine am_iadd (am_dec tmL_law_9 7 rfl) ?_
      refine am_sld (j := i + 1) hE (am_dec tmL_law_9 8 rfl) (k_iz i 1) (by omega) hL ?_
      refine am_aload_n (am_dec tmL_law_9 9 rfl) rfl rfl ?_
      refine am_iload (am_dec tmL_law_9 10 rfl) rfl ?_
      refine am_iconst (v := (2 : Int32)) (am_dec tmL_law_9 11 rfl) (by decide) ?_
      refine am_iadd (am_dec tmL_law_9 12 rfl) ?_
      refine am_sld (j := i + 2) hE (am_dec tmL_law_9 13 rfl) (k_iz i 2) (by omega) hL ?_
      refine am_aload_n (am_dec tmL_law_9 14 rfl) rfl rfl ?_
      refine am_callSH (As := [.ref 16, .int (am_x E (i + 1)), .int (am_x E (i + 2)), .ref 2637]) (st := []) (am_dec tmL_law_9 15 rfl) ok_L_seam (fun h => nomatch h) lmL_214 st_L_seam (xw_seam_1 hE b1) rfl (by decide) (Nat.le_of_ble_eq_true rfl) hc hs rfl ?_
      refine am_istore (lv' := [(0, .ref 0), (1, .ref 16), (2, .ref 117), (3, .ref 2637), (4, .int (Int32.ofNat i)), (5, .int (1 : Int32))]) (am_dec tmL_law_9 16 rfl) (by decide) rfl ?_
      refine am_aload_n (am_dec tmL_law_9 17 rfl) rfl rfl ?_
      refine am_aload_n (am_dec tmL_law_9 18 rfl) rfl rfl ?_
      refine am_iload (am_dec tmL_law_9 19 rfl) rfl ?_
      refine am_iconst (v := (1 : Int32)) (am_dec tmL_law_9 20 rfl) (by decide) ?_
      refine am_iadd (am_dec tmL_law_9 21 rfl) ?_
      refine am_sld (j := i + 1) hE (am_dec tmL_law_9 22 rfl) (k_iz i 1) (by omega) hL ?_
      refine am_aload_n (am_dec tmL_law_9 23 rfl) rfl rfl ?_
      refine am_iload (am_dec tmL_law_9 24 rfl) rfl ?_
      refine am_iconst (v := (2 : Int32)) (am_dec tmL_law_9 25 rfl) (by decide) ?_
      refine am_iadd (am_dec tmL_law_9 26 rfl) ?_
      refine am_sld (j := i + 2) hE (am_dec tmL_law_9 27 rfl) (k_iz i 2) (by omega) hL ?_
      refine am_callV1 (As := [.int (am_x E (i + 1)), .int (am_x E (i + 2))]) (st := []) hE (am_dec tmL_law_9 28 rfl) ok_X12_seam rfl lmL_216 in_X12_seam se_X12_seam sh_117 cf12 (c_X12_seam hE b2) rfl (by decide) (Nat.le_of_ble_eq_true rfl) hc hs rfl ?_
      refine am_istore (lv' := [(0, .ref 0), (1, .ref 16), (2, .ref 117), (3, .ref 2637), (4, .int (Int32.ofNat i)), (5, .int (1 : Int32)), (6, .int u)]) (am_dec tmL_law_9 29 rfl) (by decide) rfl ?_
      refine am_aload_n (am_dec tmL_law_9 30 rfl) rfl rfl ?_
      refine am_callV1 (As := []) (st := []) hE (am_dec tmL_law_9 31 rfl) ok_X12_thrown rfl lmL_169 in_X12_thrown se_X12_thrown sh_117 cf12 (c_X12_thrown hE hth) rfl (by decide) (Nat.le_of_ble_eq_true rfl) hc hs rfl ?_
      refine am_iload (am_dec tmL_law_9 32 rfl) rfl ?_
      refine am_icmp_eq (tgt := 1100) (am_dec tmL_law_9 33 rfl) (by decide) (fun _ => ?_) (fun h => absurd rfl h)
      refine am_iload (am_dec tmL_law_9 36 rfl) rfl ?_
      refine am_if_ne (tgt := 1117) (am_dec tmL_law_9 37 rfl) (by decide) (fun _ => ?_) (fun h => absurd h (by decide))
      refine am_goto (tgt := 3717) (am_dec tmL_law_9 47 rfl) (by decide) ?_
      refine am_pick [0, 1, 2, 3, 4] rfl ?_
      exact k
    · cases b0
set_option maxRecDepth 100000 in
set_option maxHeartbeats 4000000 in
theorem lw_keep {E : am_E} (hE : am_EH E) {D : am_D} (q : k_Q D D) {mc ms cu su i : Nat} (hL : am_L E ≤ 3072) (hi : i + 6 ≤ am_L E) (hc : cu + 1 ≤ mc) (hs : su + 6 ≤ ms) : ∃ D1, k_Q D1 D1 ∧ ∀ (o : am_O) (G' : am_G) (D' : am_D), am_S E mL_law 12 mc ms o G' D' (cu + 1) (su + 6) 3717 [(0, .ref 0), (1, .ref 16), (2, .ref 117), (3, .ref 2637), (4, .int (Int32.ofNat i))] [] am_G0 D1 → am_S E mL_law 12 mc ms o G' D' cu su 1120 [(0, .ref 0), (1, .ref 16), (2, .ref 117), (3, .ref 2637), (4, .int (Int32.ofNat i))] [] am_G0 D := by
  obtain ⟨D1, D2, v, a1, a2, a4⟩ := k_joinN (f1 := fun D => f_X11_keep D) (f2 := fun D => f_X12_keep D) (fun D E9 h => op_keep h) q
  refine ⟨D2, a4, fun o G' D' k => ?_⟩
  refine am_aload_n (am_dec tmL_law_9 48 rfl) rfl rfl ?_
  refine am_callV1 (As := []) (st := []) hE (am_dec tmL_law_9 49 rfl) ok_X11_keep rfl lmL_217 in_X11_keep se_X11_keep sh_16 cf11 (c_X11_keep hE a1) rfl (by decide) (Nat.le_of_ble_eq_true rfl) (Nat.le_trans (Nat.le_add_right _ 1) hc) (Nat.le_trans (Nat.le_add_right _ 6) hs) rfl ?_
  refine am_aload_n (am_dec tmL_law_9 50 rfl) rfl rfl ?_
  refine am_callV1 (As := []) (st := [.int v]) hE (am_dec tmL_law_9 51 rfl) ok_X12_keep rfl lmL_220 in_X12_keep se_X12_keep sh_117 cf12 (c_X12_keep hE a2) rfl (by decide) (Nat.le_of_ble_eq_true rfl) (Nat.le_trans (Nat.le_add_right _ 1) hc) (Nat.le_trans (Nat.le_add_right _ 6) hs) rfl ?_
  refine am_icmp_eq (tgt := 3717) (am_dec tmL_law_9 52 rfl) (by decide) (fun _ => ?_) (fun h => absurd rfl h)
  refine am_pick [0, 1, 2, 3, 4] rfl ?_
  exact am_wide (Nat.le_add_right _ _) (Nat.le_add_right _ _) k
set_option maxRecDepth 100000 in
set_option maxHeartbeats 4000000 in
theorem lw_blowing {E : am_E} (hE : am_EH E) {D : am_D} (q : k_Q D D) {mc ms cu su i : Nat} (hL : am_L E ≤ 3072) (hi : i + 6 ≤ am_L E) (hc : cu + 1 ≤ mc) (hs : su + 6 ≤ ms) : ∃ D1, k_Q D1 D1 ∧ ∀ (o : am_O) (G' : am_G) (D' : am_D), am_S E mL_law 12 mc ms o G' D' (cu + 1) (su + 6) 3717 [(0, .ref 0), (1, .ref 16), (2, .ref 117), (3, .ref 2637), (4, .int (Int32.ofNat i))] [] am_G0 D1 → am_S E mL_law 12 mc ms o G' D' cu su 1133 [(0, .ref 0), (1, .ref 16), (2, .ref 117), (3, .ref 2637), (4, .int (Int32.ofNat i))] [] am_G0 D := by
  rcases k_joinE (f1 := fun D => f_X11_blowing (am_x E (i + 1)) (am_x E (i + 2)) (am_x E (i + 3)) D) (f2 := fun D => f_X12_blowing (am_x E (i + 1)) (am_x E (i + 2)) (am_x E (i + 3)) D) (ex := ["java/lang/IllegalArgumentException"]) (fun v => v.toInt64) (fun D E9 h => op_blowing h (am_x E (i + 1)) (am_x E (i + 2)) (am_x E (i + 3))) q with ⟨D1, D2, v, a1, a2, a3, a4, a5⟩ | ⟨D1, D2, u, j, nm, b0, b1, b2, b3, b4⟩
  · refine ⟨D2, a4, fun o G' D' k => ?_⟩
    have hth : f_X12_thrown D2 = some (0 : Int32) := by rw [← a3]; rfl
    have hld : am_gL D2 2637 1 0 = some (D2.2 2637 0) := k_gl (k := 0) (by decide) (by decide)
    have hcu : ∀ _ : Unit, cu + 1 ≤ mc := fun _ => hc
    have hsu : ∀ _ : Unit, su + 6 ≤ ms := fun _ => hs
    refine am_aload_n (am_dec tmL_law_9 55 rfl) rfl rfl ?_
    refine am_aload_n (am_dec tmL_law_9 56 rfl) rfl rfl ?_
    refine am_iload (am_dec tmL_law_9 57 rfl) rfl ?_
    refine am_iconst (v := (1 : Int32)) (am_dec tmL_law_9 58 rfl) (by decide) ?_
    refine am_iadd (am_dec tmL_law_9 59 rfl) ?_
    refine am_sld (j := i + 1) hE (am_dec tmL_law_10 0 rfl) (k_iz i 1) (by omega) hL ?_
    refine am_aload_n (am_dec tmL_law_10 1 rfl) rfl rfl ?_
    refine am_iload (am_dec tmL_law_10 2 rfl) rfl ?_
    refine am_iconst (v := (2 : Int32)) (am_dec tmL_law_10 3 rfl) (by decide) ?_
    refine am_iadd (am_dec tmL_law_10 4 rfl) ?_
    refine am_sld (j := i + 2) hE (am_dec tmL_law_10 5 rfl) (k_iz i 2) (by omega) hL ?_
    refine am_aload_n (am_dec tmL_law_10 6 rfl) rfl rfl ?_
    refine am_iload (am_dec tmL_law_10 7 rfl) rfl ?_
    refine am_iconst (v := (3 : Int32)) (am_dec tmL_law_10 8 rfl) (by decide) ?_
    refine am_iadd (am_dec tmL_law_10 9 rfl) ?_
    refine am_sld (j := i + 3) hE (am_dec tmL_law_10 10 rfl) (k_iz i 3) (by omega) hL ?_
    refine am_aload_n (am_dec tmL_law_10 11 rfl) rfl rfl ?_
    refine am_callSH (As := [.ref 16, .int (am_x E (i + 1)), .int (am_x E (i + 2)), .int (am_x E (i + 3)), .ref 2637]) (st := []) (am_dec tmL_law_10 12 rfl) ok_L_blowing (fun h => nomatch h) lmL_221 st_L_blowing (cw_blowing hE a1) rfl (by decide) (Nat.le_of_ble_eq_true rfl) hc hs rfl ?_
    refine am_istore (lv' := [(0, .ref 0), (1, .ref 16), (2, .ref 117), (3, .ref 2637), (4, .int (Int32.ofNat i)), (5, .int (0 : Int32))]) (am_dec tmL_law_10 13 rfl) (by decide) rfl ?_
    refine am_aload_n (am_dec tmL_law_10 14 rfl) rfl rfl ?_
    refine am_aload_n (am_dec tmL_law_10 15 rfl) rfl rfl ?_
    refine am_iload (am_dec tmL_law_10 16 rfl) rfl ?_
    refine am_iconst (v := (1 : Int32)) (am_dec tmL_law_10 17 rfl) (by decide) ?_
    refine am_iadd (am_dec tmL_law_10 18 rfl) ?_
    refine am_sld (j := i + 1) hE (am_dec tmL_law_10 19 rfl) (k_iz i 1) (by omega) hL ?_
    refine am_aload_n (am_dec tmL_law_10 20 rfl) rfl rfl ?_
    refine am_iload (am_dec tmL_law_10 21 rfl) rfl ?_
    refine am_iconst (v := (2 : Int32)) (am_dec tmL_law_10 22 rfl) (by decide) ?_
    refine am_iadd (am_dec tmL_law_10 23 rfl) ?_
    refine am_sld (j := i + 2) hE (am_dec tmL_law_10 24 rfl) (k_iz i 2) (by omega) hL ?_
    refine am_aload_n (am_dec tmL_law_10 25 rfl) rfl rfl ?_
    refine am_iload (am_dec tmL_law_10 26 rfl) rfl ?_
    refine am_iconst (v := (3 : Int32)) (am_dec tmL_law_10 27 rfl) (by decide) ?_
    refine am_iadd (am_dec tmL_law_10 28 rfl) ?_
    refine am_sld (j := i + 3) hE (am_dec tmL_law_10 29 rfl) (k_iz i 3) (by omega) hL ?_
    refine am_callV1 (As := [.int (am_x E (i + 1)), .int (am_x E (i + 2)), .int (am_x E (i + 3))]) (st := []) hE (am_dec tmL_law_10 30 rfl) ok_X12_blowing rfl lmL_223 in_X12_blowing se_X12_blowing sh_117 cf12 (c_X12_blowing hE a2) rfl (by decide) (Nat.le_of_ble_eq_true rfl) hc hs rfl ?_
    refine am_istore (lv' := [(0, .ref 0), (1, .ref 16), (2, .ref 117), (3, .ref 2637), (4, .int (Int32.ofNat i)), (5, .int (0 : Int32)), (6, .int v)]) (am_dec tmL_law_10 31 rfl) (by decide) rfl ?_
    refine am_aload_n (am_dec tmL_law_10 32 rfl) rfl rfl ?_
    refine am_callV1 (As := []) (st := []) hE (am_dec tmL_law_10 33 rfl) ok_X12_thrown rfl lmL_169 in_X12_thrown se_X12_thrown sh_117 cf12 (c_X12_thrown hE hth) rfl (by decide) (Nat.le_of_ble_eq_true rfl) hc hs rfl ?_
    refine am_iload (am_dec tmL_law_10 34 rfl) rfl ?_
    refine am_icmp_eq (tgt := 1193) (am_dec tmL_law_10 35 rfl) (by decide) (fun _ => ?_) (fun h => absurd rfl h)
    refine am_iload (am_dec tmL_law_10 38 rfl) rfl ?_
    refine am_if_ne (tgt := 1210) (am_dec tmL_law_10 39 rfl) (by decide) (fun h => absurd rfl h) (fun _ => ?_)
    refine am_aload_n (am_dec tmL_law_10 40 rfl) rfl rfl ?_
    refine am_iconst (v := (0 : Int32)) (am_dec tmL_law_10 41 rfl) (by decide) ?_
    refine am_lald2 (n := 1) (i := 0) (v := v.toInt64) hE (am_dec tmL_law_10 42 rfl) shq_2637 (hld.trans (congrArg some a5)) ?_
    refine am_iload (am_dec tmL_law_10 43 rfl) rfl ?_
    refine am_i2l (am_dec tmL_law_10 44 rfl) ?_
    refine am_lcmp (am_dec tmL_law_10 45 rfl) ?_
    refine am_if_eq (tgt := 1210) (am_dec tmL_law_10 46 rfl) (by decide) (fun _ => ?_) (fun h => absurd (k_cmp _) h)
    refine am_goto (tgt := 3717) (am_dec tmL_law_10 49 rfl) (by decide) ?_
    refine am_pick [0, 1, 2, 3, 4] rfl ?_
    exact k
  · rcases j with _ | j
    · cases b0
      refine ⟨D2, b4, fun o G' D' k => ?_⟩
      have hth : f_X12_thrown D2 = some (Int32.ofNat 1) := by rw [← b3]; rfl
      refine am_aload_n (am_dec tmL_law_9 55 rfl) rfl rfl ?_
      refine am_aload_n (am_dec tmL_law_9 56 rfl) rfl rfl ?_
      refine am_iload (am_dec tmL_law_9 57 rfl) rfl ?_
      refine am_iconst (v := (1 : Int32)) (am_dec tmL_law_9 58 rfl) (by decide) ?_
      refine am_iadd (am_dec tmL_law_9 59 rfl) ?_
      refine am_sld (j := i + 1) hE (am_dec tmL_law_10 0 rfl) (k_iz i 1) (by omega) hL ?_
      refine am_aload_n (am_dec tmL_law_10 1 rfl) rfl rfl ?_
      refine am_iload (am_dec tmL_law_10 2 rfl) rfl ?_
      refine am_iconst (v := (2 : Int32)) (am_dec tmL_law_10 3 rfl) (by decide) ?_
      refine am_iadd (am_dec tmL_law_10 4 rfl) ?_
      refine am_sld (j := i + 2) hE (am_dec tmL_law_10 5 rfl) (k_iz i 2) (by omega) hL ?_
      refine am_aload_n (am_dec tmL_law_10 6 rfl) rfl rfl ?_
      refine am_iload (am_dec tmL_law_10 7 rfl) rfl ?_
      refine am_iconst (v := (3 : Int32)) (am_dec tmL_law_10 8 rfl) (by decide) ?_
      refine am_iadd (am_dec tmL_law_10 9 rfl) ?_
      refine am_sld (j := i + 3) hE (am_dec tmL_law_10 10 rfl) (k_iz i 3) (by omega) hL ?_
      refine am_aload_n (am_dec tmL_law_10 11 rfl) rfl rfl ?_
      refine am_callSH (As := [.ref 16, .int (am_x E (i + 1)), .int (am_x E (i + 2)), .int (am_x E (i + 3)), .ref 2637]) (st := []) (am_dec tmL_law_10 12 rfl) ok_L_blowing (fun h => nomatch h) lmL_221 st_L_blowing (xw_blowing_1 hE b1) rfl (by decide) (Nat.le_of_ble_eq_true rfl) hc hs rfl ?_
      refine am_istore (lv' := [(0, .ref 0), (1, .ref 16), (2, .ref 117), (3, .ref 2637), (4, .int (Int32.ofNat i)), (5, .int (1 : Int32))]) (am_dec tmL_law_10 13 rfl) (by decide) rfl ?_
      refine am_aload_n (am_dec tmL_law_10 14 rfl) rfl rfl ?_
      refine am_aload_n (am_dec tmL_law_10 15 rfl) rfl rfl ?_
      refine am_iload (am_dec tmL_law_10 16 rfl) rfl ?_
      refine am_iconst (v := (1 : Int32)) (am_dec tmL_law_10 17 rfl) (by decide) ?_
      refine am_iadd (am_dec tmL_law_10 18 rfl) ?_
      refine am_sld (j := i + 1) hE (am_dec tmL_law_10 19 rfl) (k_iz i 1) (by omega) hL ?_
      refine am_aload_n (am_dec tmL_law_10 20 rfl) rfl rfl ?_
      refine am_iload (am_dec tmL_law_10 21 rfl) rfl ?_
      refine am_iconst (v := (2 : Int32)) (am_dec tmL_law_10 22 rfl) (by decide) ?_
      refine am_iadd (am_dec tmL_law_10 23 rfl) ?_
      refine am_sld (j := i + 2) hE (am_dec tmL_law_10 24 rfl) (k_iz i 2) (by omega) hL ?_
      refine am_aload_n (am_dec tmL_law_10 25 rfl) rfl rfl ?_
      refine am_iload (am_dec tmL_law_10 26 rfl) rfl ?_
      refine am_iconst (v := (3 : Int32)) (am_dec tmL_law_10 27 rfl) (by decide) ?_
      refine am_iadd (am_dec tmL_law_10 28 rfl) ?_
      refine am_sld (j := i + 3) hE (am_dec tmL_law_10 29 rfl) (k_iz i 3) (by omega) hL ?_
      refine am_callV1 (As := [.int (am_x E (i + 1)), .int (am_x E (i + 2)), .int (am_x E (i + 3))]) (st := []) hE (am_dec tmL_law_10 30 rfl) ok_X12_blowing rfl lmL_223 in_X12_blowing se_X12_blowing sh_117 cf12 (c_X12_blowing hE b2) rfl (by decide) (Nat.le_of_ble_eq_true rfl) hc hs rfl ?_
      refine am_istore (lv' := [(0, .ref 0), (1, .ref 16), (2, .ref 117), (3, .ref 2637), (4, .int (Int32.ofNat i)), (5, .int (1 : Int32)), (6, .int u)]) (am_dec tmL_law_10 31 rfl) (by decide) rfl ?_
      refine am_aload_n (am_dec tmL_law_10 32 rfl) rfl rfl ?_
      refine am_callV1 (As := []) (st := []) hE (am_dec tmL_law_10 33 rfl) ok_X12_thrown rfl lmL_169 in_X12_thrown se_X12_thrown sh_117 cf12 (c_X12_thrown hE hth) rfl (by decide) (Nat.le_of_ble_eq_true rfl) hc hs rfl ?_
      refine am_iload (am_dec tmL_law_10 34 rfl) rfl ?_
      refine am_icmp_eq (tgt := 1193) (am_dec tmL_law_10 35 rfl) (by decide) (fun _ => ?_) (fun h => absurd rfl h)
      refine am_iload (am_dec tmL_law_10 38 rfl) rfl ?_
      refine am_if_ne (tgt := 1210) (am_dec tmL_law_10 39 rfl) (by decide) (fun _ => ?_) (fun h => absurd h (by decide))
      refine am_goto (tgt := 3717) (am_dec tmL_law_10 49 rfl) (by decide) ?_
      refine am_pick [0, 1, 2, 3, 4] rfl ?_
      exact k
    · cases b0
set_option maxRecDepth 100000 in
set_option maxHeartbeats 4000000 in
theorem lw_blow {E : am_E} (hE : am_EH E) {D : am_D} (q : k_Q D D) {mc ms cu su i : Nat} (hL : am_L E ≤ 3072) (hi : i + 6 ≤ am_L E) (hc : cu + 1 ≤ mc) (hs : su + 6 ≤ ms) : ∃ D1, k_Q D1 D1 ∧ ∀ (o : am_O) (G' : am_G) (D' : am_D), am_S E mL_law 12 mc ms o G' D' (cu + 1) (su + 6) 3717 [(0, .ref 0), (1, .ref 16), (2, .ref 117), (3, .ref 2637), (4, .int (Int32.ofNat i))] [] am_G0 D1 → am_S E mL_law 12 mc ms o G' D' cu su 1213 [(0, .ref 0), (1, .ref 16), (2, .ref 117), (3, .ref 2637), (4, .int (Int32.ofNat i))] [] am_G0 D := by
  rcases k_joinE (f1 := fun D => f_X11_blow (am_x E (i + 1)) (am_x E (i + 2)) D) (f2 := fun D => f_X12_blow (am_x E (i + 1)) (am_x E (i + 2)) D) (ex := ["java/util/NoSuchElementException"]) (fun v => v.toInt64) (fun D E9 h => op_blow h (am_x E (i + 1)) (am_x E (i + 2))) q with ⟨D1, D2, v, a1, a2, a3, a4, a5⟩ | ⟨D1, D2, u, j, nm, b0, b1, b2, b3, b4⟩
  · refine ⟨D2, a4, fun o G' D' k => ?_⟩
    have hth : f_X12_thrown D2 = some (0 : Int32) := by rw [← a3]; rfl
    have hld : am_gL D2 2637 1 0 = some (D2.2 2637 0) := k_gl (k := 0) (by decide) (by decide)
    have hcu : ∀ _ : Unit, cu + 1 ≤ mc := fun _ => hc
    have hsu : ∀ _ : Unit, su + 6 ≤ ms := fun _ => hs
    refine am_aload_n (am_dec tmL_law_10 50 rfl) rfl rfl ?_
    refine am_aload_n (am_dec tmL_law_10 51 rfl) rfl rfl ?_
    refine am_iload (am_dec tmL_law_10 52 rfl) rfl ?_
    refine am_iconst (v := (1 : Int32)) (am_dec tmL_law_10 53 rfl) (by decide) ?_
    refine am_iadd (am_dec tmL_law_10 54 rfl) ?_
    refine am_sld (j := i + 1) hE (am_dec tmL_law_10 55 rfl) (k_iz i 1) (by omega) hL ?_
    refine am_aload_n (am_dec tmL_law_10 56 rfl) rfl rfl ?_
    refine am_iload (am_dec tmL_law_10 57 rfl) rfl ?_
    refine am_iconst (v := (2 : Int32)) (am_dec tmL_law_10 58 rfl) (by decide) ?_
    refine am_iadd (am_dec tmL_law_10 59 rfl) ?_
    refine am_sld (j := i + 2) hE (am_dec tmL_law_11 0 rfl) (k_iz i 2) (by omega) hL ?_
    refine am_aload_n (am_dec tmL_law_11 1 rfl) rfl rfl ?_
    refine am_callSH (As := [.ref 16, .int (am_x E (i + 1)), .int (am_x E (i + 2)), .ref 2637]) (st := []) (am_dec tmL_law_11 2 rfl) ok_L_blow (fun h => nomatch h) lmL_224 st_L_blow (cw_blow hE a1) rfl (by decide) (Nat.le_of_ble_eq_true rfl) hc hs rfl ?_
    refine am_istore (lv' := [(0, .ref 0), (1, .ref 16), (2, .ref 117), (3, .ref 2637), (4, .int (Int32.ofNat i)), (5, .int (0 : Int32))]) (am_dec tmL_law_11 3 rfl) (by decide) rfl ?_
    refine am_aload_n (am_dec tmL_law_11 4 rfl) rfl rfl ?_
    refine am_aload_n (am_dec tmL_law_11 5 rfl) rfl rfl ?_
    refine am_iload (am_dec tmL_law_11 6 rfl) rfl ?_
    refine am_iconst (v := (1 : Int32)) (am_dec tmL_law_11 7 rfl) (by decide) ?_
    refine am_iadd (am_dec tmL_law_11 8 rfl) ?_
    refine am_sld (j := i + 1) hE (am_dec tmL_law_11 9 rfl) (k_iz i 1) (by omega) hL ?_
    refine am_aload_n (am_dec tmL_law_11 10 rfl) rfl rfl ?_
    refine am_iload (am_dec tmL_law_11 11 rfl) rfl ?_
    refine am_iconst (v := (2 : Int32)) (am_dec tmL_law_11 12 rfl) (by decide) ?_
    refine am_iadd (am_dec tmL_law_11 13 rfl) ?_
    refine am_sld (j := i + 2) hE (am_dec tmL_law_11 14 rfl) (k_iz i 2) (by omega) hL ?_
    refine am_callV1 (As := [.int (am_x E (i + 1)), .int (am_x E (i + 2))]) (st := []) hE (am_dec tmL_law_11 15 rfl) ok_X12_blow rfl lmL_226 in_X12_blow se_X12_blow sh_117 cf12 (c_X12_blow hE a2) rfl (by decide) (Nat.le_of_ble_eq_true rfl) hc hs rfl ?_
    refine am_istore (lv' := [(0, .ref 0), (1, .ref 16), (2, .ref 117), (3, .ref 2637), (4, .int (Int32.ofNat i)), (5, .int (0 : Int32)), (6, .int v)]) (am_dec tmL_law_11 16 rfl) (by decide) rfl ?_
    refine am_aload_n (am_dec tmL_law_11 17 rfl) rfl rfl ?_
    refine am_callV1 (As := []) (st := []) hE (am_dec tmL_law_11 18 rfl) ok_X12_thrown rfl lmL_169 in_X12_thrown se_X12_thrown sh_117 cf12 (c_X12_thrown hE hth) rfl (by decide) (Nat.le_of_ble_eq_true rfl) hc hs rfl ?_
    refine am_iload (am_dec tmL_law_11 19 rfl) rfl ?_
    refine am_icmp_eq (tgt := 1261) (am_dec tmL_law_11 20 rfl) (by decide) (fun _ => ?_) (fun h => absurd rfl h)
    refine am_iload (am_dec tmL_law_11 23 rfl) rfl ?_
    refine am_if_ne (tgt := 1278) (am_dec tmL_law_11 24 rfl) (by decide) (fun h => absurd rfl h) (fun _ => ?_)
    refine am_aload_n (am_dec tmL_law_11 25 rfl) rfl rfl ?_
    refine am_iconst (v := (0 : Int32)) (am_dec tmL_law_11 26 rfl) (by decide) ?_
    refine am_lald2 (n := 1) (i := 0) (v := v.toInt64) hE (am_dec tmL_law_11 27 rfl) shq_2637 (hld.trans (congrArg some a5)) ?_
    refine am_iload (am_dec tmL_law_11 28 rfl) rfl ?_
    refine am_i2l (am_dec tmL_law_11 29 rfl) ?_
    refine am_lcmp (am_dec tmL_law_11 30 rfl) ?_
    refine am_if_eq (tgt := 1278) (am_dec tmL_law_11 31 rfl) (by decide) (fun _ => ?_) (fun h => absurd (k_cmp _) h)
    refine am_goto (tgt := 3717) (am_dec tmL_law_11 34 rfl) (by decide) ?_
    refine am_pick [0, 1, 2, 3, 4] rfl ?_
    exact k
  · rcases j with _ | j
    · cases b0
      refine ⟨D2, b4, fun o G' D' k => ?_⟩
      have hth : f_X12_thrown D2 = some (Int32.ofNat 1) := by rw [← b3]; rfl
      refine am_aload_n (am_dec tmL_law_10 50 rfl) rfl rfl ?_
      refine am_aload_n (am_dec tmL_law_10 51 rfl) rfl rfl ?_
      refine am_iload (am_dec tmL_law_10 52 rfl) rfl ?_
      refine am_iconst (v := (1 : Int32)) (am_dec tmL_law_10 53 rfl) (by decide) ?_
      refine am_iadd (am_dec tmL_law_10 54 rfl) ?_
      refine am_sld (j := i + 1) hE (am_dec tmL_law_10 55 rfl) (k_iz i 1) (by omega) hL ?_
      refine am_aload_n (am_dec tmL_law_10 56 rfl) rfl rfl ?_
      refine am_iload (am_dec tmL_law_10 57 rfl) rfl ?_
      refine am_iconst (v := (2 : Int32)) (am_dec tmL_law_10 58 rfl) (by decide) ?_
      refine am_iadd (am_dec tmL_law_10 59 rfl) ?_
      refine am_sld (j := i + 2) hE (am_dec tmL_law_11 0 rfl) (k_iz i 2) (by omega) hL ?_
      refine am_aload_n (am_dec tmL_law_11 1 rfl) rfl rfl ?_
      refine am_callSH (As := [.ref 16, .int (am_x E (i + 1)), .int (am_x E (i + 2)), .ref 2637]) (st := []) (am_dec tmL_law_11 2 rfl) ok_L_blow (fun h => nomatch h) lmL_224 st_L_blow (xw_blow_1 hE b1) rfl (by decide) (Nat.le_of_ble_eq_true rfl) hc hs rfl ?_
      refine am_istore (lv' := [(0, .ref 0), (1, .ref 16), (2, .ref 117), (3, .ref 2637), (4, .int (Int32.ofNat i)), (5, .int (1 : Int32))]) (am_dec tmL_law_11 3 rfl) (by decide) rfl ?_
      refine am_aload_n (am_dec tmL_law_11 4 rfl) rfl rfl ?_
      refine am_aload_n (am_dec tmL_law_11 5 rfl) rfl rfl ?_
      refine am_iload (am_dec tmL_law_11 6 rfl) rfl ?_
      refine am_iconst (v := (1 : Int32)) (am_dec tmL_law_11 7 rfl) (by decide) ?_
      refine am_iadd (am_dec tmL_law_11 8 rfl) ?_
      refine am_sld (j := i + 1) hE (am_dec tmL_law_11 9 rfl) (k_iz i 1) (by omega) hL ?_
      refine am_aload_n (am_dec tmL_law_11 10 rfl) rfl rfl ?_
      refine am_iload (am_dec tmL_law_11 11 rfl) rfl ?_
      refine am_iconst (v := (2 : Int32)) (am_dec tmL_law_11 12 rfl) (by decide) ?_
      refine am_iadd (am_dec tmL_law_11 13 rfl) ?_
      refine am_sld (j := i + 2) hE (am_dec tmL_law_11 14 rfl) (k_iz i 2) (by omega) hL ?_
      refine am_callV1 (As := [.int (am_x E (i + 1)), .int (am_x E (i + 2))]) (st := []) hE (am_dec tmL_law_11 15 rfl) ok_X12_blow rfl lmL_226 in_X12_blow se_X12_blow sh_117 cf12 (c_X12_blow hE b2) rfl (by decide) (Nat.le_of_ble_eq_true rfl) hc hs rfl ?_
      refine am_istore (lv' := [(0, .ref 0), (1, .ref 16), (2, .ref 117), (3, .ref 2637), (4, .int (Int32.ofNat i)), (5, .int (1 : Int32)), (6, .int u)]) (am_dec tmL_law_11 16 rfl) (by decide) rfl ?_
      refine am_aload_n (am_dec tmL_law_11 17 rfl) rfl rfl ?_
      refine am_callV1 (As := []) (st := []) hE (am_dec tmL_law_11 18 rfl) ok_X12_thrown rfl lmL_169 in_X12_thrown se_X12_thrown sh_117 cf12 (c_X12_thrown hE hth) rfl (by decide) (Nat.le_of_ble_eq_true rfl) hc hs rfl ?_
      refine am_iload (am_dec tmL_law_11 19 rfl) rfl ?_
      refine am_icmp_eq (tgt := 1261) (am_dec tmL_law_11 20 rfl) (by decide) (fun _ => ?_) (fun h => absurd rfl h)
      refine am_iload (am_dec tmL_law_11 23 rfl) rfl ?_
      refine am_if_ne (tgt := 1278) (am_dec tmL_law_11 24 rfl) (by decide) (fun _ => ?_) (fun h => absurd h (by decide))
      refine am_goto (tgt := 3717) (am_dec tmL_law_11 34 rfl) (by decide) ?_
      refine am_pick [0, 1, 2, 3, 4] rfl ?_
      exact k
    · cases b0
set_option maxRecDepth 100000 in
set_option maxHeartbeats 4000000 in
theorem lw_blows {E : am_E} (hE : am_EH E) {D : am_D} (q : k_Q D D) {mc ms cu su i : Nat} (hL : am_L E ≤ 3072) (hi : i + 6 ≤ am_L E) (hc : cu + 1 ≤ mc) (hs : su + 6 ≤ ms) : ∃ D1, k_Q D1 D1 ∧ ∀ (o : am_O) (G' : am_G) (D' : am_D), am_S E mL_law 12 mc ms o G' D' (cu + 1) (su + 6) 3717 [(0, .ref 0), (1, .ref 16), (2, .ref 117), (3, .ref 2637), (4, .int (Int32.ofNat i))] [] am_G0 D1 → am_S E mL_law 12 mc ms o G' D' cu su 1281 [(0, .ref 0), (1, .ref 16), (2, .ref 117), (3, .ref 2637), (4, .int (Int32.ofNat i))] [] am_G0 D := by
  obtain ⟨D1, D2, v, a1, a2, a4⟩ := k_joinN (f1 := fun D => f_X11_blows D) (f2 := fun D => f_X12_blows D) (fun D E9 h => op_blows h) q
  refine ⟨D2, a4, fun o G' D' k => ?_⟩
  refine am_aload_n (am_dec tmL_law_11 35 rfl) rfl rfl ?_
  refine am_callV1 (As := []) (st := []) hE (am_dec tmL_law_11 36 rfl) ok_X11_blows rfl lmL_227 in_X11_blows se_X11_blows sh_16 cf11 (c_X11_blows hE a1) rfl (by decide) (Nat.le_of_ble_eq_true rfl) (Nat.le_trans (Nat.le_add_right _ 1) hc) (Nat.le_trans (Nat.le_add_right _ 6) hs) rfl ?_
  refine am_aload_n (am_dec tmL_law_11 37 rfl) rfl rfl ?_
  refine am_callV1 (As := []) (st := [.int v]) hE (am_dec tmL_law_11 38 rfl) ok_X12_blows rfl lmL_230 in_X12_blows se_X12_blows sh_117 cf12 (c_X12_blows hE a2) rfl (by decide) (Nat.le_of_ble_eq_true rfl) (Nat.le_trans (Nat.le_add_right _ 1) hc) (Nat.le_trans (Nat.le_add_right _ 6) hs) rfl ?_
  refine am_icmp_eq (tgt := 3717) (am_dec tmL_law_11 39 rfl) (by decide) (fun _ => ?_) (fun h => absurd rfl h)
  refine am_pick [0, 1, 2, 3, 4] rfl ?_
  exact am_wide (Nat.le_add_right _ _) (Nat.le_add_right _ _) k
set_option maxRecDepth 100000 in
set_option maxHeartbeats 4000000 in
theorem lw_harm {E : am_E} (hE : am_EH E) {D : am_D} (q : k_Q D D) {mc ms cu su i : Nat} (hL : am_L E ≤ 3072) (hi : i + 6 ≤ am_L E) (hc : cu + 1 ≤ mc) (hs : su + 6 ≤ ms) : ∃ D1, k_Q D1 D1 ∧ ∀ (o : am_O) (G' : am_G) (D' : am_D), am_S E mL_law 12 mc ms o G' D' (cu + 1) (su + 6) 3717 [(0, .ref 0), (1, .ref 16), (2, .ref 117), (3, .ref 2637), (4, .int (Int32.ofNat i))] [] am_G0 D1 → am_S E mL_law 12 mc ms o G' D' cu su 1294 [(0, .ref 0), (1, .ref 16), (2, .ref 117), (3, .ref 2637), (4, .int (Int32.ofNat i))] [] am_G0 D := by
  rcases k_joinE (f1 := fun D => f_X11_harm (am_x E (i + 1)) D) (f2 := fun D => f_X12_harm (am_x E (i + 1)) D) (ex := ["java/lang/IllegalArgumentException"]) (fun v => v.toInt64) (fun D E9 h => op_harm h (am_x E (i + 1))) q with ⟨D1, D2, v, a1, a2, a3, a4, a5⟩ | ⟨D1, D2, u, j, nm, b0, b1, b2, b3, b4⟩
  · refine ⟨D2, a4, fun o G' D' k => ?_⟩
    have hth : f_X12_thrown D2 = some (0 : Int32) := by rw [← a3]; rfl
    have hld : am_gL D2 2637 1 0 = some (D2.2 2637 0) := k_gl (k := 0) (by decide) (by decide)
    have hcu : ∀ _ : Unit, cu + 1 ≤ mc := fun _ => hc
    have hsu : ∀ _ : Unit, su + 6 ≤ ms := fun _ => hs
    refine am_aload_n (am_dec tmL_law_11 42 rfl) rfl rfl ?_
    refine am_aload_n (am_dec tmL_law_11 43 rfl) rfl rfl ?_
    refine am_iload (am_dec tmL_law_11 44 rfl) rfl ?_
    refine am_iconst (v := (1 : Int32)) (am_dec tmL_law_11 45 rfl) (by decide) ?_
    refine am_iadd (am_dec tmL_law_11 46 rfl) ?_
    refine am_sld (j := i + 1) hE (am_dec tmL_law_11 47 rfl) (k_iz i 1) (by omega) hL ?_
    refine am_aload_n (am_dec tmL_law_11 48 rfl) rfl rfl ?_
    refine am_callSH (As := [.ref 16, .int (am_x E (i + 1)), .ref 2637]) (st := []) (am_dec tmL_law_11 49 rfl) ok_L_harm (fun h => nomatch h) lmL_231 st_L_harm (cw_harm hE a1) rfl (by decide) (Nat.le_of_ble_eq_true rfl) hc hs rfl ?_
    refine am_istore (lv' := [(0, .ref 0), (1, .ref 16), (2, .ref 117), (3, .ref 2637), (4, .int (Int32.ofNat i)), (5, .int (0 : Int32))]) (am_dec tmL_law_11 50 rfl) (by decide) rfl ?_
    refine am_aload_n (am_dec tmL_law_11 51 rfl) rfl rfl ?_
    refine am_aload_n (am_dec tmL_law_11 52 rfl) rfl rfl ?_
    refine am_iload (am_dec tmL_law_11 53 rfl) rfl ?_
    refine am_iconst (v := (1 : Int32)) (am_dec tmL_law_11 54 rfl) (by decide) ?_
    refine am_iadd (am_dec tmL_law_11 55 rfl) ?_
    refine am_sld (j := i + 1) hE (am_dec tmL_law_11 56 rfl) (k_iz i 1) (by omega) hL ?_
    refine am_callV1 (As := [.int (am_x E (i + 1))]) (st := []) hE (am_dec tmL_law_11 57 rfl) ok_X12_harm rfl lmL_233 in_X12_harm se_X12_harm sh_117 cf12 (c_X12_harm hE a2) rfl (by decide) (Nat.le_of_ble_eq_true rfl) hc hs rfl ?_
    refine am_istore (lv' := [(0, .ref 0), (1, .ref 16), (2, .ref 117), (3, .ref 2637), (4, .int (Int32.ofNat i)), (5, .int (0 : Int32)), (6, .int v)]) (am_dec tmL_law_11 58 rfl) (by decide) rfl ?_
    refine am_aload_n (am_dec tmL_law_11 59 rfl) rfl rfl ?_
    refine am_callV1 (As := []) (st := []) hE (am_dec tmL_law_12 0 rfl) ok_X12_thrown rfl lmL_169 in_X12_thrown se_X12_thrown sh_117 cf12 (c_X12_thrown hE hth) rfl (by decide) (Nat.le_of_ble_eq_true rfl) hc hs rfl ?_
    refine am_iload (am_dec tmL_law_12 1 rfl) rfl ?_
    refine am_icmp_eq (tgt := 1330) (am_dec tmL_law_12 2 rfl) (by decide) (fun _ => ?_) (fun h => absurd rfl h)
    refine am_iload (am_dec tmL_law_12 5 rfl) rfl ?_
    refine am_if_ne (tgt := 1347) (am_dec tmL_law_12 6 rfl) (by decide) (fun h => absurd rfl h) (fun _ => ?_)
    refine am_aload_n (am_dec tmL_law_12 7 rfl) rfl rfl ?_
    refine am_iconst (v := (0 : Int32)) (am_dec tmL_law_12 8 rfl) (by decide) ?_
    refine am_lald2 (n := 1) (i := 0) (v := v.toInt64) hE (am_dec tmL_law_12 9 rfl) shq_2637 (hld.trans (congrArg some a5)) ?_
    refine am_iload (am_dec tmL_law_12 10 rfl) rfl ?_
    refine am_i2l (am_dec tmL_law_12 11 rfl) ?_
    refine am_lcmp (am_dec tmL_law_12 12 rfl) ?_
    refine am_if_eq (tgt := 1347) (am_dec tmL_law_12 13 rfl) (by decide) (fun _ => ?_) (fun h => absurd (k_cmp _) h)
    refine am_goto (tgt := 3717) (am_dec tmL_law_12 16 rfl) (by decide) ?_
    refine am_pick [0, 1, 2, 3, 4] rfl ?_
    exact k
  · rcases j with _ | j
    · cases b0
      refine ⟨D2, b4, fun o G' D' k => ?_⟩
      have hth : f_X12_thrown D2 = some (Int32.ofNat 1) := by rw [← b3]; rfl
      refine am_aload_n (am_dec tmL_law_11 42 rfl) rfl rfl ?_
      refine am_aload_n (am_dec tmL_law_11 43 rfl) rfl rfl ?_
      refine am_iload (am_dec tmL_law_11 44 rfl) rfl ?_
      refine am_iconst (v := (1 : Int32)) (am_dec tmL_law_11 45 rfl) (by decide) ?_
      refine am_iadd (am_dec tmL_law_11 46 rfl) ?_
      refine am_sld (j := i + 1) hE (am_dec tmL_law_11 47 rfl) (k_iz i 1) (by omega) hL ?_
      refine am_aload_n (am_dec tmL_law_11 48 rfl) rfl rfl ?_
      refine am_callSH (As := [.ref 16, .int (am_x E (i + 1)), .ref 2637]) (st := []) (am_dec tmL_law_11 49 rfl) ok_L_harm (fun h => nomatch h) lmL_231 st_L_harm (xw_harm_1 hE b1) rfl (by decide) (Nat.le_of_ble_eq_true rfl) hc hs rfl ?_
      refine am_istore (lv' := [(0, .ref 0), (1, .ref 16), (2, .ref 117), (3, .ref 2637), (4, .int (Int32.ofNat i)), (5, .int (1 : Int32))]) (am_dec tmL_law_11 50 rfl) (by decide) rfl ?_
      refine am_aload_n (am_dec tmL_law_11 51 rfl) rfl rfl ?_
      refine am_aload_n (am_dec tmL_law_11 52 rfl) rfl rfl ?_
      refine am_iload (am_dec tmL_law_11 53 rfl) rfl ?_
      refine am_iconst (v := (1 : Int32)) (am_dec tmL_law_11 54 rfl) (by decide) ?_
      refine am_iadd (am_dec tmL_law_11 55 rfl) ?_
      refine am_sld (j := i + 1) hE (am_dec tmL_law_11 56 rfl) (k_iz i 1) (by omega) hL ?_
      refine am_callV1 (As := [.int (am_x E (i + 1))]) (st := []) hE (am_dec tmL_law_11 57 rfl) ok_X12_harm rfl lmL_233 in_X12_harm se_X12_harm sh_117 cf12 (c_X12_harm hE b2) rfl (by decide) (Nat.le_of_ble_eq_true rfl) hc hs rfl ?_
      refine am_istore (lv' := [(0, .ref 0), (1, .ref 16), (2, .ref 117), (3, .ref 2637), (4, .int (Int32.ofNat i)), (5, .int (1 : Int32)), (6, .int u)]) (am_dec tmL_law_11 58 rfl) (by decide) rfl ?_
      refine am_aload_n (am_dec tmL_law_11 59 rfl) rfl rfl ?_
      refine am_callV1 (As := []) (st := []) hE (am_dec tmL_law_12 0 rfl) ok_X12_thrown rfl lmL_169 in_X12_thrown se_X12_thrown sh_117 cf12 (c_X12_thrown hE hth) rfl (by decide) (Nat.le_of_ble_eq_true rfl) hc hs rfl ?_
      refine am_iload (am_dec tmL_law_12 1 rfl) rfl ?_
      refine am_icmp_eq (tgt := 1330) (am_dec tmL_law_12 2 rfl) (by decide) (fun _ => ?_) (fun h => absurd rfl h)
      refine am_iload (am_dec tmL_law_12 5 rfl) rfl ?_
      refine am_if_ne (tgt := 1347) (am_dec tmL_law_12 6 rfl) (by decide) (fun _ => ?_) (fun h => absurd h (by decide))
      refine am_goto (tgt := 3717) (am_dec tmL_law_12 16 rfl) (by decide) ?_
      refine am_pick [0, 1, 2, 3, 4] rfl ?_
      exact k
    · cases b0
set_option maxRecDepth 100000 in
set_option maxHeartbeats 4000000 in
theorem lw_weigh {E : am_E} (hE : am_EH E) {D : am_D} (q : k_Q D D) {mc ms cu su i : Nat} (hL : am_L E ≤ 3072) (hi : i + 6 ≤ am_L E) (hc : cu + 1 ≤ mc) (hs : su + 6 ≤ ms) : ∃ D1, k_Q D1 D1 ∧ ∀ (o : am_O) (G' : am_G) (D' : am_D), am_S E mL_law 12 mc ms o G' D' (cu + 1) (su + 6) 3717 [(0, .ref 0), (1, .ref 16), (2, .ref 117), (3, .ref 2637), (4, .int (Int32.ofNat i))] [] am_G0 D1 → am_S E mL_law 12 mc ms o G' D' cu su 1350 [(0, .ref 0), (1, .ref 16), (2, .ref 117), (3, .ref 2637), (4, .int (Int32.ofNat i))] [] am_G0 D := by
  rcases k_joinE (f1 := fun D => f_X11_weigh (am_x E (i + 1)) (am_x E (i + 2)) D) (f2 := fun D => f_X12_weigh (am_x E (i + 1)) (am_x E (i + 2)) D) (ex := ["java/lang/IllegalArgumentException"]) (fun v => v.toInt64) (fun D E9 h => op_weigh h (am_x E (i + 1)) (am_x E (i + 2))) q with ⟨D1, D2, v, a1, a2, a3, a4, a5⟩ | ⟨D1, D2, u, j, nm, b0, b1, b2, b3, b4⟩
  · refine ⟨D2, a4, fun o G' D' k => ?_⟩
    have hth : f_X12_thrown D2 = some (0 : Int32) := by rw [← a3]; rfl
    have hld : am_gL D2 2637 1 0 = some (D2.2 2637 0) := k_gl (k := 0) (by decide) (by decide)
    have hcu : ∀ _ : Unit, cu + 1 ≤ mc := fun _ => hc
    have hsu : ∀ _ : Unit, su + 6 ≤ ms := fun _ => hs
    refine am_aload_n (am_dec tmL_law_12 17 rfl) rfl rfl ?_
    refine am_aload_n (am_dec tmL_law_12 18 rfl) rfl rfl ?_
    refine am_iload (am_dec tmL_law_12 19 rfl) rfl ?_
    refine am_iconst (v := (1 : Int32)) (am_dec tmL_law_12 20 rfl) (by decide) ?_
    refine am_iadd (am_dec tmL_law_12 21 rfl) ?_
    refine am_sld (j := i + 1) hE (am_dec tmL_law_12 22 rfl) (k_iz i 1) (by omega) hL ?_
    refine am_aload_n (am_dec tmL_law_12 23 rfl) rfl rfl ?_
    refine am_iload (am_dec tmL_law_12 24 rfl) rfl ?_
    refine am_iconst (v := (2 : Int32)) (am_dec tmL_law_12 25 rfl) (by decide) ?_
    refine am_iadd (am_dec tmL_law_12 26 rfl) ?_
    refine am_sld (j := i + 2) hE (am_dec tmL_law_12 27 rfl) (k_iz i 2) (by omega) hL ?_
    refine am_aload_n (am_dec tmL_law_12 28 rfl) rfl rfl ?_
    refine am_callSH (As := [.ref 16, .int (am_x E (i + 1)), .int (am_x E (i + 2)), .ref 2637]) (st := []) (am_dec tmL_law_12 29 rfl) ok_L_weigh (fun h => nomatch h) lmL_234 st_L_weigh (cw_weigh hE a1) rfl (by decide) (Nat.le_of_ble_eq_true rfl) hc hs rfl ?_
    refine am_istore (lv' := [(0, .ref 0), (1, .ref 16), (2, .ref 117), (3, .ref 2637), (4, .int (Int32.ofNat i)), (5, .int (0 : Int32))]) (am_dec tmL_law_12 30 rfl) (by decide) rfl ?_
    refine am_aload_n (am_dec tmL_law_12 31 rfl) rfl rfl ?_
    refine am_aload_n (am_dec tmL_law_12 32 rfl) rfl rfl ?_
    refine am_iload (am_dec tmL_law_12 33 rfl) rfl ?_
    refine am_iconst (v := (1 : Int32)) (am_dec tmL_law_12 34 rfl) (by decide) ?_
    refine am_iadd (am_dec tmL_law_12 35 rfl) ?_
    refine am_sld (j := i + 1) hE (am_dec tmL_law_12 36 rfl) (k_iz i 1) (by omega) hL ?_
    refine am_aload_n (am_dec tmL_law_12 37 rfl) rfl rfl ?_
    refine am_iload (am_dec tmL_law_12 38 rfl) rfl ?_
    refine am_iconst (v := (2 : Int32)) (am_dec tmL_law_12 39 rfl) (by decide) ?_
    refine am_iadd (am_dec tmL_law_12 40 rfl) ?_
    refine am_sld (j := i + 2) hE (am_dec tmL_law_12 41 rfl) (k_iz i 2) (by omega) hL ?_
    refine am_callV1 (As := [.int (am_x E (i + 1)), .int (am_x E (i + 2))]) (st := []) hE (am_dec tmL_law_12 42 rfl) ok_X12_weigh rfl lmL_236 in_X12_weigh se_X12_weigh sh_117 cf12 (c_X12_weigh hE a2) rfl (by decide) (Nat.le_of_ble_eq_true rfl) hc hs rfl ?_
    refine am_istore (lv' := [(0, .ref 0), (1, .ref 16), (2, .ref 117), (3, .ref 2637), (4, .int (Int32.ofNat i)), (5, .int (0 : Int32)), (6, .int v)]) (am_dec tmL_law_12 43 rfl) (by decide) rfl ?_
    refine am_aload_n (am_dec tmL_law_12 44 rfl) rfl rfl ?_
    refine am_callV1 (As := []) (st := []) hE (am_dec tmL_law_12 45 rfl) ok_X12_thrown rfl lmL_169 in_X12_thrown se_X12_thrown sh_117 cf12 (c_X12_thrown hE hth) rfl (by decide) (Nat.le_of_ble_eq_true rfl) hc hs rfl ?_
    refine am_iload (am_dec tmL_law_12 46 rfl) rfl ?_
    refine am_icmp_eq (tgt := 1398) (am_dec tmL_law_12 47 rfl) (by decide) (fun _ => ?_) (fun h => absurd rfl h)
    refine am_iload (am_dec tmL_law_12 50 rfl) rfl ?_
    refine am_if_ne (tgt := 1415) (am_dec tmL_law_12 51 rfl) (by decide) (fun h => absurd rfl h) (fun _ => ?_)
    refine am_aload_n (am_dec tmL_law_12 52 rfl) rfl rfl ?_
    refine am_iconst (v := (0 : Int32)) (am_dec tmL_law_12 53 rfl) (by decide) ?_
    refine am_lald2 (n := 1) (i := 0) (v := v.toInt64) hE (am_dec tmL_law_12 54 rfl) shq_2637 (hld.trans (congrArg some a5)) ?_
    refine am_iload (am_dec tmL_law_12 55 rfl) rfl ?_
    refine am_i2l (am_dec tmL_law_12 56 rfl) ?_
    refine am_lcmp (am_dec tmL_law_12 57 rfl) ?_
    refine am_if_eq (tgt := 1415) (am_dec tmL_law_12 58 rfl) (by decide) (fun _ => ?_) (fun h => absurd (k_cmp _) h)
    refine am_goto (tgt := 3717) (am_dec tmL_law_13 1 rfl) (by decide) ?_
    refine am_pick [0, 1, 2, 3, 4] rfl ?_
    exact k
  · rcases j with _ | j
    · cases b0
      refine ⟨D2, b4, fun o G' D' k => ?_⟩
      have hth : f_X12_thrown D2 = some (Int32.ofNat 1) := by rw [← b3]; rfl
      refine am_aload_n (am_dec tmL_law_12 17 rfl) rfl rfl ?_
      refine am_aload_n (am_dec tmL_law_12 18 rfl) rfl rfl ?_
      refine am_iload (am_dec tmL_law_12 19 rfl) rfl ?_
      refine am_iconst (v := (1 : Int32)) (am_dec tmL_law_12 20 rfl) (by decide) ?_
      refine am_iadd (am_dec tmL_law_12 21 rfl) ?_
      refine am_sld (j := i + 1) hE (am_dec tmL_law_12 22 rfl) (k_iz i 1) (by omega) hL ?_
      refine am_aload_n (am_dec tmL_law_12 23 rfl) rfl rfl ?_
      refine am_iload (am_dec tmL_law_12 24 rfl) rfl ?_
      refine am_iconst (v := (2 : Int32)) (am_dec tmL_law_12 25 rfl) (by decide) ?_
      refine am_iadd (am_dec tmL_law_12 26 rfl) ?_
      refine am_sld (j := i + 2) hE (am_dec tmL_law_12 27 rfl) (k_iz i 2) (by omega) hL ?_
      refine am_aload_n (am_dec tmL_law_12 28 rfl) rfl rfl ?_
      refine am_callSH (As := [.ref 16, .int (am_x E (i + 1)), .int (am_x E (i + 2)), .ref 2637]) (st := []) (am_dec tmL_law_12 29 rfl) ok_L_weigh (fun h => nomatch h) lmL_234 st_L_weigh (xw_weigh_1 hE b1) rfl (by decide) (Nat.le_of_ble_eq_true rfl) hc hs rfl ?_
      refine am_istore (lv' := [(0, .ref 0), (1, .ref 16), (2, .ref 117), (3, .ref 2637), (4, .int (Int32.ofNat i)), (5, .int (1 : Int32))]) (am_dec tmL_law_12 30 rfl) (by decide) rfl ?_
      refine am_aload_n (am_dec tmL_law_12 31 rfl) rfl rfl ?_
      refine am_aload_n (am_dec tmL_law_12 32 rfl) rfl rfl ?_
      refine am_iload (am_dec tmL_law_12 33 rfl) rfl ?_
      refine am_iconst (v := (1 : Int32)) (am_dec tmL_law_12 34 rfl) (by decide) ?_
      refine am_iadd (am_dec tmL_law_12 35 rfl) ?_
      refine am_sld (j := i + 1) hE (am_dec tmL_law_12 36 rfl) (k_iz i 1) (by omega) hL ?_
      refine am_aload_n (am_dec tmL_law_12 37 rfl) rfl rfl ?_
      refine am_iload (am_dec tmL_law_12 38 rfl) rfl ?_
      refine am_iconst (v := (2 : Int32)) (am_dec tmL_law_12 39 rfl) (by decide) ?_
      refine am_iadd (am_dec tmL_law_12 40 rfl) ?_
      refine am_sld (j := i + 2) hE (am_dec tmL_law_12 41 rfl) (k_iz i 2) (by omega) hL ?_
      refine am_callV1 (As := [.int (am_x E (i + 1)), .int (am_x E (i + 2))]) (st := []) hE (am_dec tmL_law_12 42 rfl) ok_X12_weigh rfl lmL_236 in_X12_weigh se_X12_weigh sh_117 cf12 (c_X12_weigh hE b2) rfl (by decide) (Nat.le_of_ble_eq_true rfl) hc hs rfl ?_
      refine am_istore (lv' := [(0, .ref 0), (1, .ref 16), (2, .ref 117), (3, .ref 2637), (4, .int (Int32.ofNat i)), (5, .int (1 : Int32)), (6, .int u)]) (am_dec tmL_law_12 43 rfl) (by decide) rfl ?_
      refine am_aload_n (am_dec tmL_law_12 44 rfl) rfl rfl ?_
      refine am_callV1 (As := []) (st := []) hE (am_dec tmL_law_12 45 rfl) ok_X12_thrown rfl lmL_169 in_X12_thrown se_X12_thrown sh_117 cf12 (c_X12_thrown hE hth) rfl (by decide) (Nat.le_of_ble_eq_true rfl) hc hs rfl ?_
      refine am_iload (am_dec tmL_law_12 46 rfl) rfl ?_
      refine am_icmp_eq (tgt := 1398) (am_dec tmL_law_12 47 rfl) (by decide) (fun _ => ?_) (fun h => absurd rfl h)
      refine am_iload (am_dec tmL_law_12 50 rfl) rfl ?_
      refine am_if_ne (tgt := 1415) (am_dec tmL_law_12 51 rfl) (by decide) (fun _ => ?_) (fun h => absurd h (by decide))
      refine am_goto (tgt := 3717) (am_dec tmL_law_13 1 rfl) (by decide) ?_
      refine am_pick [0, 1, 2, 3, 4] rfl ?_
      exact k
    · cases b0
set_option maxRecDepth 100000 in
set_option maxHeartbeats 4000000 in
theorem lw_way {E : am_E} (hE : am_EH E) {D : am_D} (q : k_Q D D) {mc ms cu su i : Nat} (hL : am_L E ≤ 3072) (hi : i + 6 ≤ am_L E) (hc : cu + 1 ≤ mc) (hs : su + 6 ≤ ms) : ∃ D1, k_Q D1 D1 ∧ ∀ (o : am_O) (G' : am_G) (D' : am_D), am_S E mL_law 12 mc ms o G' D' (cu + 1) (su + 6) 3717 [(0, .ref 0), (1, .ref 16), (2, .ref 117), (3, .ref 2637), (4, .int (Int32.ofNat i))] [] am_G0 D1 → am_S E mL_law 12 mc ms o G' D' cu su 1418 [(0, .ref 0), (1, .ref 16), (2, .ref 117), (3, .ref 2637), (4, .int (Int32.ofNat i))] [] am_G0 D := by
  rcases k_joinE (f1 := fun D => f_X11_way (am_x E (i + 1)) (am_x E (i + 2)) (am_x E (i + 3)) D) (f2 := fun D => f_X12_way (am_x E (i + 1)) (am_x E (i + 2)) (am_x E (i + 3)) D) (ex := ["java/lang/IllegalArgumentException"]) (fun v => v.toInt64) (fun D E9 h => op_way h (am_x E (i + 1)) (am_x E (i + 2)) (am_x E (i + 3))) q with ⟨D1, D2, v, a1, a2, a3, a4, a5⟩ | ⟨D1, D2, u, j, nm, b0, b1, b2, b3, b4⟩
  · refine ⟨D2, a4, fun o G' D' k => ?_⟩
    have hth : f_X12_thrown D2 = some (0 : Int32) := by rw [← a3]; rfl
    have hld : am_gL D2 2637 1 0 = some (D2.2 2637 0) := k_gl (k := 0) (by decide) (by decide)
    have hcu : ∀ _ : Unit, cu + 1 ≤ mc := fun _ => hc
    have hsu : ∀ _ : Unit, su + 6 ≤ ms := fun _ => hs
    refine am_aload_n (am_dec tmL_law_13 2 rfl) rfl rfl ?_
    refine am_aload_n (am_dec tmL_law_13 3 rfl) rfl rfl ?_
    refine am_iload (am_dec tmL_law_13 4 rfl) rfl ?_
    refine am_iconst (v := (1 : Int32)) (am_dec tmL_law_13 5 rfl) (by decide) ?_
    refine am_iadd (am_dec tmL_law_13 6 rfl) ?_
    refine am_sld (j := i + 1) hE (am_dec tmL_law_13 7 rfl) (k_iz i 1) (by omega) hL ?_
    refine am_aload_n (am_dec tmL_law_13 8 rfl) rfl rfl ?_
    refine am_iload (am_dec tmL_law_13 9 rfl) rfl ?_
    refine am_iconst (v := (2 : Int32)) (am_dec tmL_law_13 10 rfl) (by decide) ?_
    refine am_iadd (am_dec tmL_law_13 11 rfl) ?_
    refine am_sld (j := i + 2) hE (am_dec tmL_law_13 12 rfl) (k_iz i 2) (by omega) hL ?_
    refine am_aload_n (am_dec tmL_law_13 13 rfl) rfl rfl ?_
    refine am_iload (am_dec tmL_law_13 14 rfl) rfl ?_
    refine am_iconst (v := (3 : Int32)) (am_dec tmL_law_13 15 rfl) (by decide) ?_
    refine am_iadd (am_dec tmL_law_13 16 rfl) ?_
    refine am_sld (j := i + 3) hE (am_dec tmL_law_13 17 rfl) (k_iz i 3) (by omega) hL ?_
    refine am_aload_n (am_dec tmL_law_13 18 rfl) rfl rfl ?_
    refine am_callSH (As := [.ref 16, .int (am_x E (i + 1)), .int (am_x E (i + 2)), .int (am_x E (i + 3)), .ref 2637]) (st := []) (am_dec tmL_law_13 19 rfl) ok_L_way (fun h => nomatch h) lmL_237 st_L_way (cw_way hE a1) rfl (by decide) (Nat.le_of_ble_eq_true rfl) hc hs rfl ?_
    refine am_istore (lv' := [(0, .ref 0), (1, .ref 16), (2, .ref 117), (3, .ref 2637), (4, .int (Int32.ofNat i)), (5, .int (0 : Int32))]) (am_dec tmL_law_13 20 rfl) (by decide) rfl ?_
    refine am_aload_n (am_dec tmL_law_13 21 rfl) rfl rfl ?_
    refine am_aload_n (am_dec tmL_law_13 22 rfl) rfl rfl ?_
    refine am_iload (am_dec tmL_law_13 23 rfl) rfl ?_
    refine am_iconst (v := (1 : Int32)) (am_dec tmL_law_13 24 rfl) (by decide) ?_
    refine am_iadd (am_dec tmL_law_13 25 rfl) ?_
    refine am_sld (j := i + 1) hE (am_dec tmL_law_13 26 rfl) (k_iz i 1) (by omega) hL ?_
    refine am_aload_n (am_dec tmL_law_13 27 rfl) rfl rfl ?_
    refine am_iload (am_dec tmL_law_13 28 rfl) rfl ?_
    refine am_iconst (v := (2 : Int32)) (am_dec tmL_law_13 29 rfl) (by decide) ?_
    refine am_iadd (am_dec tmL_law_13 30 rfl) ?_
    refine am_sld (j := i + 2) hE (am_dec tmL_law_13 31 rfl) (k_iz i 2) (by omega) hL ?_
    refine am_aload_n (am_dec tmL_law_13 32 rfl) rfl rfl ?_
    refine am_iload (am_dec tmL_law_13 33 rfl) rfl ?_
    refine am_iconst (v := (3 : Int32)) (am_dec tmL_law_13 34 rfl) (by decide) ?_
    refine am_iadd (am_dec tmL_law_13 35 rfl) ?_
    refine am_sld (j := i + 3) hE (am_dec tmL_law_13 36 rfl) (k_iz i 3) (by omega) hL ?_
    refine am_callV1 (As := [.int (am_x E (i + 1)), .int (am_x E (i + 2)), .int (am_x E (i + 3))]) (st := []) hE (am_dec tmL_law_13 37 rfl) ok_X12_way rfl lmL_239 in_X12_way se_X12_way sh_117 cf12 (c_X12_way hE a2) rfl (by decide) (Nat.le_of_ble_eq_true rfl) hc hs rfl ?_
    refine am_istore (lv' := [(0, .ref 0), (1, .ref 16), (2, .ref 117), (3, .ref 2637), (4, .int (Int32.ofNat i)), (5, .int (0 : Int32)), (6, .int v)]) (am_dec tmL_law_13 38 rfl) (by decide) rfl ?_
    refine am_aload_n (am_dec tmL_law_13 39 rfl) rfl rfl ?_
    refine am_callV1 (As := []) (st := []) hE (am_dec tmL_law_13 40 rfl) ok_X12_thrown rfl lmL_169 in_X12_thrown se_X12_thrown sh_117 cf12 (c_X12_thrown hE hth) rfl (by decide) (Nat.le_of_ble_eq_true rfl) hc hs rfl ?_
    refine am_iload (am_dec tmL_law_13 41 rfl) rfl ?_
    refine am_icmp_eq (tgt := 1478) (am_dec tmL_law_13 42 rfl) (by decide) (fun _ => ?_) (fun h => absurd rfl h)
    refine am_iload (am_dec tmL_law_13 45 rfl) rfl ?_
    refine am_if_ne (tgt := 1495) (am_dec tmL_law_13 46 rfl) (by decide) (fun h => absurd rfl h) (fun _ => ?_)
    refine am_aload_n (am_dec tmL_law_13 47 rfl) rfl rfl ?_
    refine am_iconst (v := (0 : Int32)) (am_dec tmL_law_13 48 rfl) (by decide) ?_
    refine am_lald2 (n := 1) (i := 0) (v := v.toInt64) hE (am_dec tmL_law_13 49 rfl) shq_2637 (hld.trans (congrArg some a5)) ?_
    refine am_iload (am_dec tmL_law_13 50 rfl) rfl ?_
    refine am_i2l (am_dec tmL_law_13 51 rfl) ?_
    refine am_lcmp (am_dec tmL_law_13 52 rfl) ?_
    refine am_if_eq (tgt := 1495) (am_dec tmL_law_13 53 rfl) (by decide) (fun _ => ?_) (fun h => absurd (k_cmp _) h)
    refine am_goto (tgt := 3717) (am_dec tmL_law_13 56 rfl) (by decide) ?_
    refine am_pick [0, 1, 2, 3, 4] rfl ?_
    exact k
  · rcases j with _ | j
    · cases b0
      refine ⟨D2, b4, fun o G' D' k => ?_⟩
      have hth : f_X12_thrown D2 = some (Int32.ofNat 1) := by rw [← b3]; rfl
      refine am_aload_n (am_dec tmL_law_13 2 rfl) rfl rfl ?_
      refine am_aload_n (am_dec tmL_law_13 3 rfl) rfl rfl ?_
      refine am_iload (am_dec tmL_law_13 4 rfl) rfl ?_
      refine am_iconst (v := (1 : Int32)) (am_dec tmL_law_13 5 rfl) (by decide) ?_
      refine am_iadd (am_dec tmL_law_13 6 rfl) ?_
      refine am_sld (j := i + 1) hE (am_dec tmL_law_13 7 rfl) (k_iz i 1) (by omega) hL ?_
      refine am_aload_n (am_dec tmL_law_13 8 rfl) rfl rfl ?_
      refine am_iload (am_dec tmL_law_13 9 rfl) rfl ?_
      refine am_iconst (v := (2 : Int32)) (am_dec tmL_law_13 10 rfl) (by decide) ?_
      refine am_iadd (am_dec tmL_law_13 11 rfl) ?_
      refine am_sld (j := i + 2) hE (am_dec tmL_law_13 12 rfl) (k_iz i 2) (by omega) hL ?_
      refine am_aload_n (am_dec tmL_law_13 13 rfl) rfl rfl ?_
      refine am_iload (am_dec tmL_law_13 14 rfl) rfl ?_
      refine am_iconst (v := (3 : Int32)) (am_dec tmL_law_13 15 rfl) (by decide) ?_
      refine am_iadd (am_dec tmL_law_13 16 rfl) ?_
      refine am_sld (j := i + 3) hE (am_dec tmL_law_13 17 rfl) (k_iz i 3) (by omega) hL ?_
      refine am_aload_n (am_dec tmL_law_13 18 rfl) rfl rfl ?_
      refine am_callSH (As := [.ref 16, .int (am_x E (i + 1)), .int (am_x E (i + 2)), .int (am_x E (i + 3)), .ref 2637]) (st := []) (am_dec tmL_law_13 19 rfl) ok_L_way (fun h => nomatch h) lmL_237 st_L_way (xw_way_1 hE b1) rfl (by decide) (Nat.le_of_ble_eq_true rfl) hc hs rfl ?_
      refine am_istore (lv' := [(0, .ref 0), (1, .ref 16), (2, .ref 117), (3, .ref 2637), (4, .int (Int32.ofNat i)), (5, .int (1 : Int32))]) (am_dec tmL_law_13 20 rfl) (by decide) rfl ?_
      refine am_aload_n (am_dec tmL_law_13 21 rfl) rfl rfl ?_
      refine am_aload_n (am_dec tmL_law_13 22 rfl) rfl rfl ?_
      refine am_iload (am_dec tmL_law_13 23 rfl) rfl ?_
      refine am_iconst (v := (1 : Int32)) (am_dec tmL_law_13 24 rfl) (by decide) ?_
      refine am_iadd (am_dec tmL_law_13 25 rfl) ?_
      refine am_sld (j := i + 1) hE (am_dec tmL_law_13 26 rfl) (k_iz i 1) (by omega) hL ?_
      refine am_aload_n (am_dec tmL_law_13 27 rfl) rfl rfl ?_
      refine am_iload (am_dec tmL_law_13 28 rfl) rfl ?_
      refine am_iconst (v := (2 : Int32)) (am_dec tmL_law_13 29 rfl) (by decide) ?_
      refine am_iadd (am_dec tmL_law_13 30 rfl) ?_
      refine am_sld (j := i + 2) hE (am_dec tmL_law_13 31 rfl) (k_iz i 2) (by omega) hL ?_
      refine am_aload_n (am_dec tmL_law_13 32 rfl) rfl rfl ?_
      refine am_iload (am_dec tmL_law_13 33 rfl) rfl ?_
      refine am_iconst (v := (3 : Int32)) (am_dec tmL_law_13 34 rfl) (by decide) ?_
      refine am_iadd (am_dec tmL_law_13 35 rfl) ?_
      refine am_sld (j := i + 3) hE (am_dec tmL_law_13 36 rfl) (k_iz i 3) (by omega) hL ?_
      refine am_callV1 (As := [.int (am_x E (i + 1)), .int (am_x E (i + 2)), .int (am_x E (i + 3))]) (st := []) hE (am_dec tmL_law_13 37 rfl) ok_X12_way rfl lmL_239 in_X12_way se_X12_way sh_117 cf12 (c_X12_way hE b2) rfl (by decide) (Nat.le_of_ble_eq_true rfl) hc hs rfl ?_
      refine am_istore (lv' := [(0, .ref 0), (1, .ref 16), (2, .ref 117), (3, .ref 2637), (4, .int (Int32.ofNat i)), (5, .int (1 : Int32)), (6, .int u)]) (am_dec tmL_law_13 38 rfl) (by decide) rfl ?_
      refine am_aload_n (am_dec tmL_law_13 39 rfl) rfl rfl ?_
      refine am_callV1 (As := []) (st := []) hE (am_dec tmL_law_13 40 rfl) ok_X12_thrown rfl lmL_169 in_X12_thrown se_X12_thrown sh_117 cf12 (c_X12_thrown hE hth) rfl (by decide) (Nat.le_of_ble_eq_true rfl) hc hs rfl ?_
      refine am_iload (am_dec tmL_law_13 41 rfl) rfl ?_
      refine am_icmp_eq (tgt := 1478) (am_dec tmL_law_13 42 rfl) (by decide) (fun _ => ?_) (fun h => absurd rfl h)
      refine am_iload (am_dec tmL_law_13 45 rfl) rfl ?_
      refine am_if_ne (tgt := 1495) (am_dec tmL_law_13 46 rfl) (by decide) (fun _ => ?_) (fun h => absurd h (by decide))
      refine am_goto (tgt := 3717) (am_dec tmL_law_13 56 rfl) (by decide) ?_
      refine am_pick [0, 1, 2, 3, 4] rfl ?_
      exact k
    · cases b0
set_option maxRecDepth 100000 in
set_option maxHeartbeats 4000000 in
theorem lw_best {E : am_E} (hE : am_EH E) {D : am_D} (q : k_Q D D) {mc ms cu su i : Nat} (hL : am_L E ≤ 3072) (hi : i + 6 ≤ am_L E) (hc : cu + 1 ≤ mc) (hs : su + 6 ≤ ms) : ∃ D1, k_Q D1 D1 ∧ ∀ (o : am_O) (G' : am_G) (D' : am_D), am_S E mL_law 12 mc ms o G' D' (cu + 1) (su + 6) 3717 [(0, .ref 0), (1, .ref 16), (2, .ref 117), (3, .ref 2637), (4, .int (Int32.ofNat i))] [] am_G0 D1 → am_S E mL_law 12 mc ms o G' D' cu su 1498 [(0, .ref 0), (1, .ref 16), (2, .ref 117), (3, .ref 2637), (4, .int (Int32.ofNat i))] [] am_G0 D := by
  rcases k_joinE (f1 := fun D => f_X11_best (am_x E (i + 1)) (am_x E (i + 2)) D) (f2 := fun D => f_X12_best (am_x E (i + 1)) (am_x E (i + 2)) D) (ex := ["java/util/NoSuchElementException", "java/lang/IndexOutOfBoundsException", "java/lang/IllegalStateException"]) (fun v => v.toInt64) (fun D E9 h => op_best h (am_x E (i + 1)) (am_x E (i + 2))) q with ⟨D1, D2, v, a1, a2, a3, a4, a5⟩ | ⟨D1, D2, u, j, nm, b0, b1, b2, b3, b4⟩
  · refine ⟨D2, a4, fun o G' D' k => ?_⟩
    have hth : f_X12_thrown D2 = some (0 : Int32) := by rw [← a3]; rfl
    have hld : am_gL D2 2637 1 0 = some (D2.2 2637 0) := k_gl (k := 0) (by decide) (by decide)
    have hcu : ∀ _ : Unit, cu + 1 ≤ mc := fun _ => hc
    have hsu : ∀ _ : Unit, su + 6 ≤ ms := fun _ => hs
    refine am_aload_n (am_dec tmL_law_13 57 rfl) rfl rfl ?_
    refine am_aload_n (am_dec tmL_law_13 58 rfl) rfl rfl ?_
    refine am_iload (am_dec tmL_law_13 59 rfl) rfl ?_
    refine am_iconst (v := (1 : Int32)) (am_dec tmL_law_14 0 rfl) (by decide) ?_
    refine am_iadd (am_dec tmL_law_14 1 rfl) ?_
    refine am_sld (j := i + 1) hE (am_dec tmL_law_14 2 rfl) (k_iz i 1) (by omega) hL ?_
    refine am_aload_n (am_dec tmL_law_14 3 rfl) rfl rfl ?_
    refine am_iload (am_dec tmL_law_14 4 rfl) rfl ?_
    refine am_iconst (v := (2 : Int32)) (am_dec tmL_law_14 5 rfl) (by decide) ?_
    refine am_iadd (am_dec tmL_law_14 6 rfl) ?_
    refine am_sld (j := i + 2) hE (am_dec tmL_law_14 7 rfl) (k_iz i 2) (by omega) hL ?_
    refine am_aload_n (am_dec tmL_law_14 8 rfl) rfl rfl ?_
    refine am_callSH (As := [.ref 16, .int (am_x E (i + 1)), .int (am_x E (i + 2)), .ref 2637]) (st := []) (am_dec tmL_law_14 9 rfl) ok_L_best (fun h => nomatch h) lmL_240 st_L_best (cw_best hE a1) rfl (by decide) (Nat.le_of_ble_eq_true rfl) hc hs rfl ?_
    refine am_istore (lv' := [(0, .ref 0), (1, .ref 16), (2, .ref 117), (3, .ref 2637), (4, .int (Int32.ofNat i)), (5, .int (0 : Int32))]) (am_dec tmL_law_14 10 rfl) (by decide) rfl ?_
    refine am_aload_n (am_dec tmL_law_14 11 rfl) rfl rfl ?_
    refine am_aload_n (am_dec tmL_law_14 12 rfl) rfl rfl ?_
    refine am_iload (am_dec tmL_law_14 13 rfl) rfl ?_
    refine am_iconst (v := (1 : Int32)) (am_dec tmL_law_14 14 rfl) (by decide) ?_
    refine am_iadd (am_dec tmL_law_14 15 rfl) ?_
    refine am_sld (j := i + 1) hE (am_dec tmL_law_14 16 rfl) (k_iz i 1) (by omega) hL ?_
    refine am_aload_n (am_dec tmL_law_14 17 rfl) rfl rfl ?_
    refine am_iload (am_dec tmL_law_14 18 rfl) rfl ?_
    refine am_iconst (v := (2 : Int32)) (am_dec tmL_law_14 19 rfl) (by decide) ?_
    refine am_iadd (am_dec tmL_law_14 20 rfl) ?_
    refine am_sld (j := i + 2) hE (am_dec tmL_law_14 21 rfl) (k_iz i 2) (by omega) hL ?_
    refine am_callV1 (As := [.int (am_x E (i + 1)), .int (am_x E (i + 2))]) (st := []) hE (am_dec tmL_law_14 22 rfl) ok_X12_best rfl lmL_242 in_X12_best se_X12_best sh_117 cf12 (c_X12_best hE a2) rfl (by decide) (Nat.le_of_ble_eq_true rfl) hc hs rfl ?_
    refine am_istore (lv' := [(0, .ref 0), (1, .ref 16), (2, .ref 117), (3, .ref 2637), (4, .int (Int32.ofNat i)), (5, .int (0 : Int32)), (6, .int v)]) (am_dec tmL_law_14 23 rfl) (by decide) rfl ?_
    refine am_aload_n (am_dec tmL_law_14 24 rfl) rfl rfl ?_
    refine am_callV1 (As := []) (st := []) hE (am_dec tmL_law_14 25 rfl) ok_X12_thrown rfl lmL_169 in_X12_thrown se_X12_thrown sh_117 cf12 (c_X12_thrown hE hth) rfl (by decide) (Nat.le_of_ble_eq_true rfl) hc hs rfl ?_
    refine am_iload (am_dec tmL_law_14 26 rfl) rfl ?_
    refine am_icmp_eq (tgt := 1546) (am_dec tmL_law_14 27 rfl) (by decide) (fun _ => ?_) (fun h => absurd rfl h)
    refine am_iload (am_dec tmL_law_14 30 rfl) rfl ?_
    refine am_if_ne (tgt := 1563) (am_dec tmL_law_14 31 rfl) (by decide) (fun h => absurd rfl h) (fun _ => ?_)
    refine am_aload_n (am_dec tmL_law_14 32 rfl) rfl rfl ?_
    refine am_iconst (v := (0 : Int32)) (am_dec tmL_law_14 33 rfl) (by decide) ?_
    refine am_lald2 (n := 1) (i := 0) (v := v.toInt64) hE (am_dec tmL_law_14 34 rfl) shq_2637 (hld.trans (congrArg some a5)) ?_
    refine am_iload (am_dec tmL_law_14 35 rfl) rfl ?_
    refine am_i2l (am_dec tmL_law_14 36 rfl) ?_
    refine am_lcmp (am_dec tmL_law_14 37 rfl) ?_
    refine am_if_eq (tgt := 1563) (am_dec tmL_law_14 38 rfl) (by decide) (fun _ => ?_) (fun h => absurd (k_cmp _) h)
    refine am_goto (tgt := 3717) (am_dec tmL_law_14 41 rfl) (by decide) ?_
    refine am_pick [0, 1, 2, 3, 4] rfl ?_
    exact k
  · rcases j with _ | _ | _ | j
    · cases b0
      refine ⟨D2, b4, fun o G' D' k => ?_⟩
      have hth : f_X12_thrown D2 = some (Int32.ofNat 1) := by rw [← b3]; rfl
      refine am_aload_n (am_dec tmL_law_13 57 rfl) rfl rfl ?_
      refine am_aload_n (am_dec tmL_law_13 58 rfl) rfl rfl ?_
      refine am_iload (am_dec tmL_law_13 59 rfl) rfl ?_
      refine am_iconst (v := (1 : Int32)) (am_dec tmL_law_14 0 rfl) (by decide) ?_
      refine am_iadd (am_dec tmL_law_14 1 rfl) ?_
      refine am_sld (j := i + 1) hE (am_dec tmL_law_14 2 rfl) (k_iz i 1) (by omega) hL ?_
      refine am_aload_n (am_dec tmL_law_14 3 rfl) rfl rfl ?_
      refine am_iload (am_dec tmL_law_14 4 rfl) rfl ?_
      refine am_iconst (v := (2 : Int32)) (am_dec tmL_law_14 5 rfl) (by decide) ?_
      refine am_iadd (am_dec tmL_law_14 6 rfl) ?_
      refine am_sld (j := i + 2) hE (am_dec tmL_law_14 7 rfl) (k_iz i 2) (by omega) hL ?_
      refine am_aload_n (am_dec tmL_law_14 8 rfl) rfl rfl ?_
      refine am_callSH (As := [.ref 16, .int (am_x E (i + 1)), .int (am_x E (i + 2)), .ref 2637]) (st := []) (am_dec tmL_law_14 9 rfl) ok_L_best (fun h => nomatch h) lmL_240 st_L_best (xw_best_1 hE b1) rfl (by decide) (Nat.le_of_ble_eq_true rfl) hc hs rfl ?_
      refine am_istore (lv' := [(0, .ref 0), (1, .ref 16), (2, .ref 117), (3, .ref 2637), (4, .int (Int32.ofNat i)), (5, .int (1 : Int32))]) (am_dec tmL_law_14 10 rfl) (by decide) rfl ?_
      refine am_aload_n (am_dec tmL_law_14 11 rfl) rfl rfl ?_
      refine am_aload_n (am_dec tmL_law_14 12 rfl) rfl rfl ?_
      refine am_iload (am_dec tmL_law_14 13 rfl) rfl ?_
      refine am_iconst (v := (1 : Int32)) (am_dec tmL_law_14 14 rfl) (by decide) ?_
      refine am_iadd (am_dec tmL_law_14 15 rfl) ?_
      refine am_sld (j := i + 1) hE (am_dec tmL_law_14 16 rfl) (k_iz i 1) (by omega) hL ?_
      refine am_aload_n (am_dec tmL_law_14 17 rfl) rfl rfl ?_
      refine am_iload (am_dec tmL_law_14 18 rfl) rfl ?_
      refine am_iconst (v := (2 : Int32)) (am_dec tmL_law_14 19 rfl) (by decide) ?_
      refine am_iadd (am_dec tmL_law_14 20 rfl) ?_
      refine am_sld (j := i + 2) hE (am_dec tmL_law_14 21 rfl) (k_iz i 2) (by omega) hL ?_
      refine am_callV1 (As := [.int (am_x E (i + 1)), .int (am_x E (i + 2))]) (st := []) hE (am_dec tmL_law_14 22 rfl) ok_X12_best rfl lmL_242 in_X12_best se_X12_best sh_117 cf12 (c_X12_best hE b2) rfl (by decide) (Nat.le_of_ble_eq_true rfl) hc hs rfl ?_
      refine am_istore (lv' := [(0, .ref 0), (1, .ref 16), (2, .ref 117), (3, .ref 2637), (4, .int (Int32.ofNat i)), (5, .int (1 : Int32)), (6, .int u)]) (am_dec tmL_law_14 23 rfl) (by decide) rfl ?_
      refine am_aload_n (am_dec tmL_law_14 24 rfl) rfl rfl ?_
      refine am_callV1 (As := []) (st := []) hE (am_dec tmL_law_14 25 rfl) ok_X12_thrown rfl lmL_169 in_X12_thrown se_X12_thrown sh_117 cf12 (c_X12_thrown hE hth) rfl (by decide) (Nat.le_of_ble_eq_true rfl) hc hs rfl ?_
      refine am_iload (am_dec tmL_law_14 26 rfl) rfl ?_
      refine am_icmp_eq (tgt := 1546) (am_dec tmL_law_14 27 rfl) (by decide) (fun _ => ?_) (fun h => absurd rfl h)
      refine am_iload (am_dec tmL_law_14 30 rfl) rfl ?_
      refine am_if_ne (tgt := 1563) (am_dec tmL_law_14 31 rfl) (by decide) (fun _ => ?_) (fun h => absurd h (by decide))
      refine am_goto (tgt := 3717) (am_dec tmL_law_14 41 rfl) (by decide) ?_
      refine am_pick [0, 1, 2, 3, 4] rfl ?_
      exact k
    · cases b0
      refine ⟨D2, b4, fun o G' D' k => ?_⟩
      have hth : f_X12_thrown D2 = some (Int32.ofNat 2) := by rw [← b3]; rfl
      refine am_aload_n (am_dec tmL_law_13 57 rfl) rfl rfl ?_
      refine am_aload_n (am_dec tmL_law_13 58 rfl) rfl rfl ?_
      refine am_iload (am_dec tmL_law_13 59 rfl) rfl ?_
      refine am_iconst (v := (1 : Int32)) (am_dec tmL_law_14 0 rfl) (by decide) ?_
      refine am_iadd (am_dec tmL_law_14 1 rfl) ?_
      refine am_sld (j := i + 1) hE (am_dec tmL_law_14 2 rfl) (k_iz i 1) (by omega) hL ?_
      refine am_aload_n (am_dec tmL_law_14 3 rfl) rfl rfl ?_
      refine am_iload (am_dec tmL_law_14 4 rfl) rfl ?_
      refine am_iconst (v := (2 : Int32)) (am_dec tmL_law_14 5 rfl) (by decide) ?_
      refine am_iadd (am_dec tmL_law_14 6 rfl) ?_
      refine am_sld (j := i + 2) hE (am_dec tmL_law_14 7 rfl) (k_iz i 2) (by omega) hL ?_
      refine am_aload_n (am_dec tmL_law_14 8 rfl) rfl rfl ?_
      refine am_callSH (As := [.ref 16, .int (am_x E (i + 1)), .int (am_x E (i + 2)), .ref 2637]) (st := []) (am_dec tmL_law_14 9 rfl) ok_L_best (fun h => nomatch h) lmL_240 st_L_best (xw_best_2 hE b1) rfl (by decide) (Nat.le_of_ble_eq_true rfl) hc hs rfl ?_
      refine am_istore (lv' := [(0, .ref 0), (1, .ref 16), (2, .ref 117), (3, .ref 2637), (4, .int (Int32.ofNat i)), (5, .int (2 : Int32))]) (am_dec tmL_law_14 10 rfl) (by decide) rfl ?_
      refine am_aload_n (am_dec tmL_law_14 11 rfl) rfl rfl ?_
      refine am_aload_n (am_dec tmL_law_14 12 rfl) rfl rfl ?_
      refine am_iload (am_dec tmL_law_14 13 rfl) rfl ?_
      refine am_iconst (v := (1 : Int32)) (am_dec tmL_law_14 14 rfl) (by decide) ?_
      refine am_iadd (am_dec tmL_law_14 15 rfl) ?_
      refine am_sld (j := i + 1) hE (am_dec tmL_law_14 16 rfl) (k_iz i 1) (by omega) hL ?_
      refine am_aload_n (am_dec tmL_law_14 17 rfl) rfl rfl ?_
      refine am_iload (am_dec tmL_law_14 18 rfl) rfl ?_
      refine am_iconst (v := (2 : Int32)) (am_dec tmL_law_14 19 rfl) (by decide) ?_
      refine am_iadd (am_dec tmL_law_14 20 rfl) ?_
      refine am_sld (j := i + 2) hE (am_dec tmL_law_14 21 rfl) (k_iz i 2) (by omega) hL ?_
      refine am_callV1 (As := [.int (am_x E (i + 1)), .int (am_x E (i + 2))]) (st := []) hE (am_dec tmL_law_14 22 rfl) ok_X12_best rfl lmL_242 in_X12_best se_X12_best sh_117 cf12 (c_X12_best hE b2) rfl (by decide) (Nat.le_of_ble_eq_true rfl) hc hs rfl ?_
      refine am_istore (lv' := [(0, .ref 0), (1, .ref 16), (2, .ref 117), (3, .ref 2637), (4, .int (Int32.ofNat i)), (5, .int (2 : Int32)), (6, .int u)]) (am_dec tmL_law_14 23 rfl) (by decide) rfl ?_
      refine am_aload_n (am_dec tmL_law_14 24 rfl) rfl rfl ?_
      refine am_callV1 (As := []) (st := []) hE (am_dec tmL_law_14 25 rfl) ok_X12_thrown rfl lmL_169 in_X12_thrown se_X12_thrown sh_117 cf12 (c_X12_thrown hE hth) rfl (by decide) (Nat.le_of_ble_eq_true rfl) hc hs rfl ?_
      refine am_iload (am_dec tmL_law_14 26 rfl) rfl ?_
      refine am_icmp_eq (tgt := 1546) (am_dec tmL_law_14 27 rfl) (by decide) (fun _ => ?_) (fun h => absurd rfl h)
      refine am_iload (am_dec tmL_law_14 30 rfl) rfl ?_
      refine am_if_ne (tgt := 1563) (am_dec tmL_law_14 31 rfl) (by decide) (fun _ => ?_) (fun h => absurd h (by decide))
      refine am_goto (tgt := 3717) (am_dec tmL_law_14 41 rfl) (by decide) ?_
      refine am_pick [0, 1, 2, 3, 4] rfl ?_
      exact k
    · cases b0
      refine ⟨D2, b4, fun o G' D' k => ?_⟩
      have hth : f_X12_thrown D2 = some (Int32.ofNat 3) := by rw [← b3]; rfl
      refine am_aload_n (am_dec tmL_law_13 57 rfl) rfl rfl ?_
      refine am_aload_n (am_dec tmL_law_13 58 rfl) rfl rfl ?_
      refine am_iload (am_dec tmL_law_13 59 rfl) rfl ?_
      refine am_iconst (v := (1 : Int32)) (am_dec tmL_law_14 0 rfl) (by decide) ?_
      refine am_iadd (am_dec tmL_law_14 1 rfl) ?_
      refine am_sld (j := i + 1) hE (am_dec tmL_law_14 2 rfl) (k_iz i 1) (by omega) hL ?_
      refine am_aload_n (am_dec tmL_law_14 3 rfl) rfl rfl ?_
      refine am_iload (am_dec tmL_law_14 4 rfl) rfl ?_
      refine am_iconst (v := (2 : Int32)) (am_dec tmL_law_14 5 rfl) (by decide) ?_
      refine am_iadd (am_dec tmL_law_14 6 rfl) ?_
      refine am_sld (j := i + 2) hE (am_dec tmL_law_14 7 rfl) (k_iz i 2) (by omega) hL ?_
      refine am_aload_n (am_dec tmL_law_14 8 rfl) rfl rfl ?_
      refine am_callSH (As := [.ref 16, .int (am_x E (i + 1)), .int (am_x E (i + 2)), .ref 2637]) (st := []) (am_dec tmL_law_14 9 rfl) ok_L_best (fun h => nomatch h) lmL_240 st_L_best (xw_best_3 hE b1) rfl (by decide) (Nat.le_of_ble_eq_true rfl) hc hs rfl ?_
      refine am_istore (lv' := [(0, .ref 0), (1, .ref 16), (2, .ref 117), (3, .ref 2637), (4, .int (Int32.ofNat i)), (5, .int (3 : Int32))]) (am_dec tmL_law_14 10 rfl) (by decide) rfl ?_
      refine am_aload_n (am_dec tmL_law_14 11 rfl) rfl rfl ?_
      refine am_aload_n (am_dec tmL_law_14 12 rfl) rfl rfl ?_
      refine am_iload (am_dec tmL_law_14 13 rfl) rfl ?_
      refine am_iconst (v := (1 : Int32)) (am_dec tmL_law_14 14 rfl) (by decide) ?_
      refine am_iadd (am_dec tmL_law_14 15 rfl) ?_
      refine am_sld (j := i + 1) hE (am_dec tmL_law_14 16 rfl) (k_iz i 1) (by omega) hL ?_
      refine am_aload_n (am_dec tmL_law_14 17 rfl) rfl rfl ?_
      refine am_iload (am_dec tmL_law_14 18 rfl) rfl ?_
      refine am_iconst (v := (2 : Int32)) (am_dec tmL_law_14 19 rfl) (by decide) ?_
      refine am_iadd (am_dec tmL_law_14 20 rfl) ?_
      refine am_sld (j := i + 2) hE (am_dec tmL_law_14 21 rfl) (k_iz i 2) (by omega) hL ?_
      refine am_callV1 (As := [.int (am_x E (i + 1)), .int (am_x E (i + 2))]) (st := []) hE (am_dec tmL_law_14 22 rfl) ok_X12_best rfl lmL_242 in_X12_best se_X12_best sh_117 cf12 (c_X12_best hE b2) rfl (by decide) (Nat.le_of_ble_eq_true rfl) hc hs rfl ?_
      refine am_istore (lv' := [(0, .ref 0), (1, .ref 16), (2, .ref 117), (3, .ref 2637), (4, .int (Int32.ofNat i)), (5, .int (3 : Int32)), (6, .int u)]) (am_dec tmL_law_14 23 rfl) (by decide) rfl ?_
      refine am_aload_n (am_dec tmL_law_14 24 rfl) rfl rfl ?_
      refine am_callV1 (As := []) (st := []) hE (am_dec tmL_law_14 25 rfl) ok_X12_thrown rfl lmL_169 in_X12_thrown se_X12_thrown sh_117 cf12 (c_X12_thrown hE hth) rfl (by decide) (Nat.le_of_ble_eq_true rfl) hc hs rfl ?_
      refine am_iload (am_dec tmL_law_14 26 rfl) rfl ?_
      refine am_icmp_eq (tgt := 1546) (am_dec tmL_law_14 27 rfl) (by decide) (fun _ => ?_) (fun h => absurd rfl h)
      refine am_iload (am_dec tmL_law_14 30 rfl) rfl ?_
      refine am_if_ne (tgt := 1563) (am_dec tmL_law_14 31 rfl) (by decide) (fun _ => ?_) (fun h => absurd h (by decide))
      refine am_goto (tgt := 3717) (am_dec tmL_law_14 41 rfl) (by decide) ?_
      refine am_pick [0, 1, 2, 3, 4] rfl ?_
      exact k
    · cases b0
set_option maxRecDepth 100000 in
set_option maxHeartbeats 4000000 in
theorem lw_bestOf {E : am_E} (hE : am_EH E) {D : am_D} (q : k_Q D D) {mc ms cu su i : Nat} (hL : am_L E ≤ 3072) (hi : i + 6 ≤ am_L E) (hc : cu + 1 ≤ mc) (hs : su + 6 ≤ ms) : ∃ D1, k_Q D1 D1 ∧ ∀ (o : am_O) (G' : am_G) (D' : am_D), am_S E mL_law 12 mc ms o G' D' (cu + 1) (su + 6) 3717 [(0, .ref 0), (1, .ref 16), (2, .ref 117), (3, .ref 2637), (4, .int (Int32.ofNat i))] [] am_G0 D1 → am_S E mL_law 12 mc ms o G' D' cu su 1566 [(0, .ref 0), (1, .ref 16), (2, .ref 117), (3, .ref 2637), (4, .int (Int32.ofNat i))] [] am_G0 D := by
  rcases k_joinE (f1 := fun D => f_X11_bestOf (am_x E (i + 1)) (am_x E (i + 2)) (am_x E (i + 3)) D) (f2 := fun D => f_X12_bestOf (am_x E (i + 1)) (am_x E (i + 2)) (am_x E (i + 3)) D) (ex := ["java/util/NoSuchElementException", "java/lang/IndexOutOfBoundsException", "java/lang/IllegalArgumentException", "java/lang/IllegalStateException"]) (fun v => v.toInt64) (fun D E9 h => op_bestOf h (am_x E (i + 1)) (am_x E (i + 2)) (am_x E (i + 3))) q with ⟨D1, D2, v, a1, a2, a3, a4, a5⟩ | ⟨D1, D2, u, j, nm, b0, b1, b2, b3, b4⟩
  · refine ⟨D2, a4, fun o G' D' k => ?_⟩
    have hth : f_X12_thrown D2 = some (0 : Int32) := by rw [← a3]; rfl
    have hld : am_gL D2 2637 1 0 = some (D2.2 2637 0) := k_gl (k := 0) (by decide) (by decide)
    have hcu : ∀ _ : Unit, cu + 1 ≤ mc := fun _ => hc
    have hsu : ∀ _ : Unit, su + 6 ≤ ms := fun _ => hs
    refine am_aload_n (am_dec tmL_law_14 42 rfl) rfl rfl ?_
    refine am_aload_n (am_dec tmL_law_14 43 rfl) rfl rfl ?_
    refine am_iload (am_dec tmL_law_14 44 rfl) rfl ?_
    refine am_iconst (v := (1 : Int32)) (am_dec tmL_law_14 45 rfl) (by decide) ?_
    refine am_iadd (am_dec tmL_law_14 46 rfl) ?_
    refine am_sld (j := i + 1) hE (am_dec tmL_law_14 47 rfl) (k_iz i 1) (by omega) hL ?_
    refine am_aload_n (am_dec tmL_law_14 48 rfl) rfl rfl ?_
    refine am_iload (am_dec tmL_law_14 49 rfl) rfl ?_
    refine am_iconst (v := (2 : Int32)) (am_dec tmL_law_14 50 rfl) (by decide) ?_
    refine am_iadd (am_dec tmL_law_14 51 rfl) ?_
    refine am_sld (j := i + 2) hE (am_dec tmL_law_14 52 rfl) (k_iz i 2) (by omega) hL ?_
    refine am_aload_n (am_dec tmL_law_14 53 rfl) rfl rfl ?_
    refine am_iload (am_dec tmL_law_14 54 rfl) rfl ?_
    refine am_iconst (v := (3 : Int32)) (am_dec tmL_law_14 55 rfl) (by decide) ?_
    refine am_iadd (am_dec tmL_law_14 56 rfl) ?_
    refine am_sld (j := i + 3) hE (am_dec tmL_law_14 57 rfl) (k_iz i 3) (by omega) hL ?_
    refine am_aload_n (am_dec tmL_law_14 58 rfl) rfl rfl ?_
    refine am_callSH (As := [.ref 16, .int (am_x E (i + 1)), .int (am_x E (i + 2)), .int (am_x E (i + 3)), .ref 2637]) (st := []) (am_dec tmL_law_14 59 rfl) ok_L_bestOf (fun h => nomatch h) lmL_243 st_L_bestOf (cw_bestOf hE a1) rfl (by decide) (Nat.le_of_ble_eq_true rfl) hc hs rfl ?_
    refine am_istore (lv' := [(0, .ref 0), (1, .ref 16), (2, .ref 117), (3, .ref 2637), (4, .int (Int32.ofNat i)), (5, .int (0 : Int32))]) (am_dec tmL_law_15 0 rfl) (by decide) rfl ?_
    refine am_aload_n (am_dec tmL_law_15 1 rfl) rfl rfl ?_
    refine am_aload_n (am_dec tmL_law_15 2 rfl) rfl rfl ?_
    refine am_iload (am_dec tmL_law_15 3 rfl) rfl ?_
    refine am_iconst (v := (1 : Int32)) (am_dec tmL_law_15 4 rfl) (by decide) ?_
    refine am_iadd (am_dec tmL_law_15 5 rfl) ?_
    refine am_sld (j := i + 1) hE (am_dec tmL_law_15 6 rfl) (k_iz i 1) (by omega) hL ?_
    refine am_aload_n (am_dec tmL_law_15 7 rfl) rfl rfl ?_
    refine am_iload (am_dec tmL_law_15 8 rfl) rfl ?_
    refine am_iconst (v := (2 : Int32)) (am_dec tmL_law_15 9 rfl) (by decide) ?_
    refine am_iadd (am_dec tmL_law_15 10 rfl) ?_
    refine am_sld (j := i + 2) hE (am_dec tmL_law_15 11 rfl) (k_iz i 2) (by omega) hL ?_
    refine am_aload_n (am_dec tmL_law_15 12 rfl) rfl rfl ?_
    refine am_iload (am_dec tmL_law_15 13 rfl) rfl ?_
    refine am_iconst (v := (3 : Int32)) (am_dec tmL_law_15 14 rfl) (by decide) ?_
    refine am_iadd (am_dec tmL_law_15 15 rfl) ?_
    refine am_sld (j := i + 3) hE (am_dec tmL_law_15 16 rfl) (k_iz i 3) (by omega) hL ?_
    refine am_callV1 (As := [.int (am_x E (i + 1)), .int (am_x E (i + 2)), .int (am_x E (i + 3))]) (st := []) hE (am_dec tmL_law_15 17 rfl) ok_X12_bestOf rfl lmL_245 in_X12_bestOf se_X12_bestOf sh_117 cf12 (c_X12_bestOf hE a2) rfl (by decide) (Nat.le_of_ble_eq_true rfl) hc hs rfl ?_
    refine am_istore (lv' := [(0, .ref 0), (1, .ref 16), (2, .ref 117), (3, .ref 2637), (4, .int (Int32.ofNat i)), (5, .int (0 : Int32)), (6, .int v)]) (am_dec tmL_law_15 18 rfl) (by decide) rfl ?_
    refine am_aload_n (am_dec tmL_law_15 19 rfl) rfl rfl ?_
    refine am_callV1 (As := []) (st := []) hE (am_dec tmL_law_15 20 rfl) ok_X12_thrown rfl lmL_169 in_X12_thrown se_X12_thrown sh_117 cf12 (c_X12_thrown hE hth) rfl (by decide) (Nat.le_of_ble_eq_true rfl) hc hs rfl ?_
    refine am_iload (am_dec tmL_law_15 21 rfl) rfl ?_
    refine am_icmp_eq (tgt := 1626) (am_dec tmL_law_15 22 rfl) (by decide) (fun _ => ?_) (fun h => absurd rfl h)
    refine am_iload (am_dec tmL_law_15 25 rfl) rfl ?_
    refine am_if_ne (tgt := 1643) (am_dec tmL_law_15 26 rfl) (by decide) (fun h => absurd rfl h) (fun _ => ?_)
    refine am_aload_n (am_dec tmL_law_15 27 rfl) rfl rfl ?_
    refine am_iconst (v := (0 : Int32)) (am_dec tmL_law_15 28 rfl) (by decide) ?_
    refine am_lald2 (n := 1) (i := 0) (v := v.toInt64) hE (am_dec tmL_law_15 29 rfl) shq_2637 (hld.trans (congrArg some a5)) ?_
    refine am_iload (am_dec tmL_law_15 30 rfl) rfl ?_
    refine am_i2l (am_dec tmL_law_15 31 rfl) ?_
    refine am_lcmp (am_dec tmL_law_15 32 rfl) ?_
    refine am_if_eq (tgt := 1643) (am_dec tmL_law_15 33 rfl) (by decide) (fun _ => ?_) (fun h => absurd (k_cmp _) h)
    refine am_goto (tgt := 3717) (am_dec tmL_law_15 36 rfl) (by decide) ?_
    refine am_pick [0, 1, 2, 3, 4] rfl ?_
    exact k
  · rcases j with _ | _ | _ | _ | j
    · cases b0
      refine ⟨D2, b4, fun o G' D' k => ?_⟩
      have hth : f_X12_thrown D2 = some (Int32.ofNat 1) := by rw [← b3]; rfl
      refine am_aload_n (am_dec tmL_law_14 42 rfl) rfl rfl ?_
      refine am_aload_n (am_dec tmL_law_14 43 rfl) rfl rfl ?_
      refine am_iload (am_dec tmL_law_14 44 rfl) rfl ?_
      refine am_iconst (v := (1 : Int32)) (am_dec tmL_law_14 45 rfl) (by decide) ?_
      refine am_iadd (am_dec tmL_law_14 46 rfl) ?_
      refine am_sld (j := i + 1) hE (am_dec tmL_law_14 47 rfl) (k_iz i 1) (by omega) hL ?_
      refine am_aload_n (am_dec tmL_law_14 48 rfl) rfl rfl ?_
      refine am_iload (am_dec tmL_law_14 49 rfl) rfl ?_
      refine am_iconst (v := (2 : Int32)) (am_dec tmL_law_14 50 rfl) (by decide) ?_
      refine am_iadd (am_dec tmL_law_14 51 rfl) ?_
      refine am_sld (j := i + 2) hE (am_dec tmL_law_14 52 rfl) (k_iz i 2) (by omega) hL ?_
      refine am_aload_n (am_dec tmL_law_14 53 rfl) rfl rfl ?_
      refine am_iload (am_dec tmL_law_14 54 rfl) rfl ?_
      refine am_iconst (v := (3 : Int32)) (am_dec tmL_law_14 55 rfl) (by decide) ?_
      refine am_iadd (am_dec tmL_law_14 56 rfl) ?_
      refine am_sld (j := i + 3) hE (am_dec tmL_law_14 57 rfl) (k_iz i 3) (by omega) hL ?_
      refine am_aload_n (am_dec tmL_law_14 58 rfl) rfl rfl ?_
      refine am_callSH (As := [.ref 16, .int (am_x E (i + 1)), .int (am_x E (i + 2)), .int (am_x E (i + 3)), .ref 2637]) (st := []) (am_dec tmL_law_14 59 rfl) ok_L_bestOf (fun h => nomatch h) lmL_243 st_L_bestOf (xw_bestOf_1 hE b1) rfl (by decide) (Nat.le_of_ble_eq_true rfl) hc hs rfl ?_
      refine am_istore (lv' := [(0, .ref 0), (1, .ref 16), (2, .ref 117), (3, .ref 2637), (4, .int (Int32.ofNat i)), (5, .int (1 : Int32))]) (am_dec tmL_law_15 0 rfl) (by decide) rfl ?_
      refine am_aload_n (am_dec tmL_law_15 1 rfl) rfl rfl ?_
      refine am_aload_n (am_dec tmL_law_15 2 rfl) rfl rfl ?_
      refine am_iload (am_dec tmL_law_15 3 rfl) rfl ?_
      refine am_iconst (v := (1 : Int32)) (am_dec tmL_law_15 4 rfl) (by decide) ?_
      refine am_iadd (am_dec tmL_law_15 5 rfl) ?_
      refine am_sld (j := i + 1) hE (am_dec tmL_law_15 6 rfl) (k_iz i 1) (by omega) hL ?_
      refine am_aload_n (am_dec tmL_law_15 7 rfl) rfl rfl ?_
      refine am_iload (am_dec tmL_law_15 8 rfl) rfl ?_
      refine am_iconst (v := (2 : Int32)) (am_dec tmL_law_15 9 rfl) (by decide) ?_
      refine am_iadd (am_dec tmL_law_15 10 rfl) ?_
      refine am_sld (j := i + 2) hE (am_dec tmL_law_15 11 rfl) (k_iz i 2) (by omega) hL ?_
      refine am_aload_n (am_dec tmL_law_15 12 rfl) rfl rfl ?_
      refine am_iload (am_dec tmL_law_15 13 rfl) rfl ?_
      refine am_iconst (v := (3 : Int32)) (am_dec tmL_law_15 14 rfl) (by decide) ?_
      refine am_iadd (am_dec tmL_law_15 15 rfl) ?_
      refine am_sld (j := i + 3) hE (am_dec tmL_law_15 16 rfl) (k_iz i 3) (by omega) hL ?_
      refine am_callV1 (As := [.int (am_x E (i + 1)), .int (am_x E (i + 2)), .int (am_x E (i + 3))]) (st := []) hE (am_dec tmL_law_15 17 rfl) ok_X12_bestOf rfl lmL_245 in_X12_bestOf se_X12_bestOf sh_117 cf12 (c_X12_bestOf hE b2) rfl (by decide) (Nat.le_of_ble_eq_true rfl) hc hs rfl ?_
      refine am_istore (lv' := [(0, .ref 0), (1, .ref 16), (2, .ref 117), (3, .ref 2637), (4, .int (Int32.ofNat i)), (5, .int (1 : Int32)), (6, .int u)]) (am_dec tmL_law_15 18 rfl) (by decide) rfl ?_
      refine am_aload_n (am_dec tmL_law_15 19 rfl) rfl rfl ?_
      refine am_callV1 (As := []) (st := []) hE (am_dec tmL_law_15 20 rfl) ok_X12_thrown rfl lmL_169 in_X12_thrown se_X12_thrown sh_117 cf12 (c_X12_thrown hE hth) rfl (by decide) (Nat.le_of_ble_eq_true rfl) hc hs rfl ?_
      refine am_iload (am_dec tmL_law_15 21 rfl) rfl ?_
      refine am_icmp_eq (tgt := 1626) (am_dec tmL_law_15 22 rfl) (by decide) (fun _ => ?_) (fun h => absurd rfl h)
      refine am_iload (am_dec tmL_law_15 25 rfl) rfl ?_
      refine am_if_ne (tgt := 1643) (am_dec tmL_law_15 26 rfl) (by decide) (fun _ => ?_) (fun h => absurd h (by decide))
      refine am_goto (tgt := 3717) (am_dec tmL_law_15 36 rfl) (by decide) ?_
      refine am_pick [0, 1, 2, 3, 4] rfl ?_
      exact k
    · cases b0
      refine ⟨D2, b4, fun o G' D' k => ?_⟩
      have hth : f_X12_thrown D2 = some (Int32.ofNat 2) := by rw [← b3]; rfl
      refine am_aload_n (am_dec tmL_law_14 42 rfl) rfl rfl ?_
      refine am_aload_n (am_dec tmL_law_14 43 rfl) rfl rfl ?_
      refine am_iload (am_dec tmL_law_14 44 rfl) rfl ?_
      refine am_iconst (v := (1 : Int32)) (am_dec tmL_law_14 45 rfl) (by decide) ?_
      refine am_iadd (am_dec tmL_law_14 46 rfl) ?_
      refine am_sld (j := i + 1) hE (am_dec tmL_law_14 47 rfl) (k_iz i 1) (by omega) hL ?_
      refine am_aload_n (am_dec tmL_law_14 48 rfl) rfl rfl ?_
      refine am_iload (am_dec tmL_law_14 49 rfl) rfl ?_
      refine am_iconst (v := (2 : Int32)) (am_dec tmL_law_14 50 rfl) (by decide) ?_
      refine am_iadd (am_dec tmL_law_14 51 rfl) ?_
      refine am_sld (j := i + 2) hE (am_dec tmL_law_14 52 rfl) (k_iz i 2) (by omega) hL ?_
      refine am_aload_n (am_dec tmL_law_14 53 rfl) rfl rfl ?_
      refine am_iload (am_dec tmL_law_14 54 rfl) rfl ?_
      refine am_iconst (v := (3 : Int32)) (am_dec tmL_law_14 55 rfl) (by decide) ?_
      refine am_iadd (am_dec tmL_law_14 56 rfl) ?_
      refine am_sld (j := i + 3) hE (am_dec tmL_law_14 57 rfl) (k_iz i 3) (by omega) hL ?_
      refine am_aload_n (am_dec tmL_law_14 58 rfl) rfl rfl ?_
      refine am_callSH (As := [.ref 16, .int (am_x E (i + 1)), .int (am_x E (i + 2)), .int (am_x E (i + 3)), .ref 2637]) (st := []) (am_dec tmL_law_14 59 rfl) ok_L_bestOf (fun h => nomatch h) lmL_243 st_L_bestOf (xw_bestOf_2 hE b1) rfl (by decide) (Nat.le_of_ble_eq_true rfl) hc hs rfl ?_
      refine am_istore (lv' := [(0, .ref 0), (1, .ref 16), (2, .ref 117), (3, .ref 2637), (4, .int (Int32.ofNat i)), (5, .int (2 : Int32))]) (am_dec tmL_law_15 0 rfl) (by decide) rfl ?_
      refine am_aload_n (am_dec tmL_law_15 1 rfl) rfl rfl ?_
      refine am_aload_n (am_dec tmL_law_15 2 rfl) rfl rfl ?_
      refine am_iload (am_dec tmL_law_15 3 rfl) rfl ?_
      refine am_iconst (v := (1 : Int32)) (am_dec tmL_law_15 4 rfl) (by decide) ?_
      refine am_iadd (am_dec tmL_law_15 5 rfl) ?_
      refine am_sld (j := i + 1) hE (am_dec tmL_law_15 6 rfl) (k_iz i 1) (by omega) hL ?_
      refine am_aload_n (am_dec tmL_law_15 7 rfl) rfl rfl ?_
      refine am_iload (am_dec tmL_law_15 8 rfl) rfl ?_
      refine am_iconst (v := (2 : Int32)) (am_dec tmL_law_15 9 rfl) (by decide) ?_
      refine am_iadd (am_dec tmL_law_15 10 rfl) ?_
      refine am_sld (j := i + 2) hE (am_dec tmL_law_15 11 rfl) (k_iz i 2) (by omega) hL ?_
      refine am_aload_n (am_dec tmL_law_15 12 rfl) rfl rfl ?_
      refine am_iload (am_dec tmL_law_15 13 rfl) rfl ?_
      refine am_iconst (v := (3 : Int32)) (am_dec tmL_law_15 14 rfl) (by decide) ?_
      refine am_iadd (am_dec tmL_law_15 15 rfl) ?_
      refine am_sld (j := i + 3) hE (am_dec tmL_law_15 16 rfl) (k_iz i 3) (by omega) hL ?_
      refine am_callV1 (As := [.int (am_x E (i + 1)), .int (am_x E (i + 2)), .int (am_x E (i + 3))]) (st := []) hE (am_dec tmL_law_15 17 rfl) ok_X12_bestOf rfl lmL_245 in_X12_bestOf se_X12_bestOf sh_117 cf12 (c_X12_bestOf hE b2) rfl (by decide) (Nat.le_of_ble_eq_true rfl) hc hs rfl ?_
      refine am_istore (lv' := [(0, .ref 0), (1, .ref 16), (2, .ref 117), (3, .ref 2637), (4, .int (Int32.ofNat i)), (5, .int (2 : Int32)), (6, .int u)]) (am_dec tmL_law_15 18 rfl) (by decide) rfl ?_
      refine am_aload_n (am_dec tmL_law_15 19 rfl) rfl rfl ?_
      refine am_callV1 (As := []) (st := []) hE (am_dec tmL_law_15 20 rfl) ok_X12_thrown rfl lmL_169 in_X12_thrown se_X12_thrown sh_117 cf12 (c_X12_thrown hE hth) rfl (by decide) (Nat.le_of_ble_eq_true rfl) hc hs rfl ?_
      refine am_iload (am_dec tmL_law_15 21 rfl) rfl ?_
      refine am_icmp_eq (tgt := 1626) (am_dec tmL_law_15 22 rfl) (by decide) (fun _ => ?_) (fun h => absurd rfl h)
      refine am_iload (am_dec tmL_law_15 25 rfl) rfl ?_
      refine am_if_ne (tgt := 1643) (am_dec tmL_law_15 26 rfl) (by decide) (fun _ => ?_) (fun h => absurd h (by decide))
      refine am_goto (tgt := 3717) (am_dec tmL_law_15 36 rfl) (by decide) ?_
      refine am_pick [0, 1, 2, 3, 4] rfl ?_
      exact k
    · cases b0
      refine ⟨D2, b4, fun o G' D' k => ?_⟩
      have hth : f_X12_thrown D2 = some (Int32.ofNat 3) := by rw [← b3]; rfl
      refine am_aload_n (am_dec tmL_law_14 42 rfl) rfl rfl ?_
      refine am_aload_n (am_dec tmL_law_14 43 rfl) rfl rfl ?_
      refine am_iload (am_dec tmL_law_14 44 rfl) rfl ?_
      refine am_iconst (v := (1 : Int32)) (am_dec tmL_law_14 45 rfl) (by decide) ?_
      refine am_iadd (am_dec tmL_law_14 46 rfl) ?_
      refine am_sld (j := i + 1) hE (am_dec tmL_law_14 47 rfl) (k_iz i 1) (by omega) hL ?_
      refine am_aload_n (am_dec tmL_law_14 48 rfl) rfl rfl ?_
      refine am_iload (am_dec tmL_law_14 49 rfl) rfl ?_
      refine am_iconst (v := (2 : Int32)) (am_dec tmL_law_14 50 rfl) (by decide) ?_
      refine am_iadd (am_dec tmL_law_14 51 rfl) ?_
      refine am_sld (j := i + 2) hE (am_dec tmL_law_14 52 rfl) (k_iz i 2) (by omega) hL ?_
      refine am_aload_n (am_dec tmL_law_14 53 rfl) rfl rfl ?_
      refine am_iload (am_dec tmL_law_14 54 rfl) rfl ?_
      refine am_iconst (v := (3 : Int32)) (am_dec tmL_law_14 55 rfl) (by decide) ?_
      refine am_iadd (am_dec tmL_law_14 56 rfl) ?_
      refine am_sld (j := i + 3) hE (am_dec tmL_law_14 57 rfl) (k_iz i 3) (by omega) hL ?_
      refine am_aload_n (am_dec tmL_law_14 58 rfl) rfl rfl ?_
      refine am_callSH (As := [.ref 16, .int (am_x E (i + 1)), .int (am_x E (i + 2)), .int (am_x E (i + 3)), .ref 2637]) (st := []) (am_dec tmL_law_14 59 rfl) ok_L_bestOf (fun h => nomatch h) lmL_243 st_L_bestOf (xw_bestOf_3 hE b1) rfl (by decide) (Nat.le_of_ble_eq_true rfl) hc hs rfl ?_
      refine am_istore (lv' := [(0, .ref 0), (1, .ref 16), (2, .ref 117), (3, .ref 2637), (4, .int (Int32.ofNat i)), (5, .int (3 : Int32))]) (am_dec tmL_law_15 0 rfl) (by decide) rfl ?_
      refine am_aload_n (am_dec tmL_law_15 1 rfl) rfl rfl ?_
      refine am_aload_n (am_dec tmL_law_15 2 rfl) rfl rfl ?_
      refine am_iload (am_dec tmL_law_15 3 rfl) rfl ?_
      refine am_iconst (v := (1 : Int32)) (am_dec tmL_law_15 4 rfl) (by decide) ?_
      refine am_iadd (am_dec tmL_law_15 5 rfl) ?_
      refine am_sld (j := i + 1) hE (am_dec tmL_law_15 6 rfl) (k_iz i 1) (by omega) hL ?_
      refine am_aload_n (am_dec tmL_law_15 7 rfl) rfl rfl ?_
      refine am_iload (am_dec tmL_law_15 8 rfl) rfl ?_
      refine am_iconst (v := (2 : Int32)) (am_dec tmL_law_15 9 rfl) (by decide) ?_
      refine am_iadd (am_dec tmL_law_15 10 rfl) ?_
      refine am_sld (j := i + 2) hE (am_dec tmL_law_15 11 rfl) (k_iz i 2) (by omega) hL ?_
      refine am_aload_n (am_dec tmL_law_15 12 rfl) rfl rfl ?_
      refine am_iload (am_dec tmL_law_15 13 rfl) rfl ?_
      refine am_iconst (v := (3 : Int32)) (am_dec tmL_law_15 14 rfl) (by decide) ?_
      refine am_iadd (am_dec tmL_law_15 15 rfl) ?_
      refine am_sld (j := i + 3) hE (am_dec tmL_law_15 16 rfl) (k_iz i 3) (by omega) hL ?_
      refine am_callV1 (As := [.int (am_x E (i + 1)), .int (am_x E (i + 2)), .int (am_x E (i + 3))]) (st := []) hE (am_dec tmL_law_15 17 rfl) ok_X12_bestOf rfl lmL_245 in_X12_bestOf se_X12_bestOf sh_117 cf12 (c_X12_bestOf hE b2) rfl (by decide) (Nat.le_of_ble_eq_true rfl) hc hs rfl ?_
      refine am_istore (lv' := [(0, .ref 0), (1, .ref 16), (2, .ref 117), (3, .ref 2637), (4, .int (Int32.ofNat i)), (5, .int (3 : Int32)), (6, .int u)]) (am_dec tmL_law_15 18 rfl) (by decide) rfl ?_
      refine am_aload_n (am_dec tmL_law_15 19 rfl) rfl rfl ?_
      refine am_callV1 (As := []) (st := []) hE (am_dec tmL_law_15 20 rfl) ok_X12_thrown rfl lmL_169 in_X12_thrown se_X12_thrown sh_117 cf12 (c_X12_thrown hE hth) rfl (by decide) (Nat.le_of_ble_eq_true rfl) hc hs rfl ?_
      refine am_iload (am_dec tmL_law_15 21 rfl) rfl ?_
      refine am_icmp_eq (tgt := 1626) (am_dec tmL_law_15 22 rfl) (by decide) (fun _ => ?_) (fun h => absurd rfl h)
      refine am_iload (am_dec tmL_law_15 25 rfl) rfl ?_
      refine am_if_ne (tgt := 1643) (am_dec tmL_law_15 26 rfl) (by decide) (fun _ => ?_) (fun h => absurd h (by decide))
      refine am_goto (tgt := 3717) (am_dec tmL_law_15 36 rfl) (by decide) ?_
      refine am_pick [0, 1, 2, 3, 4] rfl ?_
      exact k
    · cases b0
      refine ⟨D2, b4, fun o G' D' k => ?_⟩
      have hth : f_X12_thrown D2 = some (Int32.ofNat 4) := by rw [← b3]; rfl
      refine am_aload_n (am_dec tmL_law_14 42 rfl) rfl rfl ?_
      refine am_aload_n (am_dec tmL_law_14 43 rfl) rfl rfl ?_
      refine am_iload (am_dec tmL_law_14 44 rfl) rfl ?_
      refine am_iconst (v := (1 : Int32)) (am_dec tmL_law_14 45 rfl) (by decide) ?_
      refine am_iadd (am_dec tmL_law_14 46 rfl) ?_
      refine am_sld (j := i + 1) hE (am_dec tmL_law_14 47 rfl) (k_iz i 1) (by omega) hL ?_
      refine am_aload_n (am_dec tmL_law_14 48 rfl) rfl rfl ?_
      refine am_iload (am_dec tmL_law_14 49 rfl) rfl ?_
      refine am_iconst (v := (2 : Int32)) (am_dec tmL_law_14 50 rfl) (by decide) ?_
      refine am_iadd (am_dec tmL_law_14 51 rfl) ?_
      refine am_sld (j := i + 2) hE (am_dec tmL_law_14 52 rfl) (k_iz i 2) (by omega) hL ?_
      refine am_aload_n (am_dec tmL_law_14 53 rfl) rfl rfl ?_
      refine am_iload (am_dec tmL_law_14 54 rfl) rfl ?_
      refine am_iconst (v := (3 : Int32)) (am_dec tmL_law_14 55 rfl) (by decide) ?_
      refine am_iadd (am_dec tmL_law_14 56 rfl) ?_
      refine am_sld (j := i + 3) hE (am_dec tmL_law_14 57 rfl) (k_iz i 3) (by omega) hL ?_
      refine am_aload_n (am_dec tmL_law_14 58 rfl) rfl rfl ?_
      refine am_callSH (As := [.ref 16, .int (am_x E (i + 1)), .int (am_x E (i + 2)), .int (am_x E (i + 3)), .ref 2637]) (st := []) (am_dec tmL_law_14 59 rfl) ok_L_bestOf (fun h => nomatch h) lmL_243 st_L_bestOf (xw_bestOf_4 hE b1) rfl (by decide) (Nat.le_of_ble_eq_true rfl) hc hs rfl ?_
      refine am_istore (lv' := [(0, .ref 0), (1, .ref 16), (2, .ref 117), (3, .ref 2637), (4, .int (Int32.ofNat i)), (5, .int (4 : Int32))]) (am_dec tmL_law_15 0 rfl) (by decide) rfl ?_
      refine am_aload_n (am_dec tmL_law_15 1 rfl) rfl rfl ?_
      refine am_aload_n (am_dec tmL_law_15 2 rfl) rfl rfl ?_
      refine am_iload (am_dec tmL_law_15 3 rfl) rfl ?_
      refine am_iconst (v := (1 : Int32)) (am_dec tmL_law_15 4 rfl) (by decide) ?_
      refine am_iadd (am_dec tmL_law_15 5 rfl) ?_
      refine am_sld (j := i + 1) hE (am_dec tmL_law_15 6 rfl) (k_iz i 1) (by omega) hL ?_
      refine am_aload_n (am_dec tmL_law_15 7 rfl) rfl rfl ?_
      refine am_iload (am_dec tmL_law_15 8 rfl) rfl ?_
      refine am_iconst (v := (2 : Int32)) (am_dec tmL_law_15 9 rfl) (by decide) ?_
      refine am_iadd (am_dec tmL_law_15 10 rfl) ?_
      refine am_sld (j := i + 2) hE (am_dec tmL_law_15 11 rfl) (k_iz i 2) (by omega) hL ?_
      refine am_aload_n (am_dec tmL_law_15 12 rfl) rfl rfl ?_
      refine am_iload (am_dec tmL_law_15 13 rfl) rfl ?_
      refine am_iconst (v := (3 : Int32)) (am_dec tmL_law_15 14 rfl) (by decide) ?_
      refine am_iadd (am_dec tmL_law_15 15 rfl) ?_
      refine am_sld (j := i + 3) hE (am_dec tmL_law_15 16 rfl) (k_iz i 3) (by omega) hL ?_
      refine am_callV1 (As := [.int (am_x E (i + 1)), .int (am_x E (i + 2)), .int (am_x E (i + 3))]) (st := []) hE (am_dec tmL_law_15 17 rfl) ok_X12_bestOf rfl lmL_245 in_X12_bestOf se_X12_bestOf sh_117 cf12 (c_X12_bestOf hE b2) rfl (by decide) (Nat.le_of_ble_eq_true rfl) hc hs rfl ?_
      refine am_istore (lv' := [(0, .ref 0), (1, .ref 16), (2, .ref 117), (3, .ref 2637), (4, .int (Int32.ofNat i)), (5, .int (4 : Int32)), (6, .int u)]) (am_dec tmL_law_15 18 rfl) (by decide) rfl ?_
      refine am_aload_n (am_dec tmL_law_15 19 rfl) rfl rfl ?_
      refine am_callV1 (As := []) (st := []) hE (am_dec tmL_law_15 20 rfl) ok_X12_thrown rfl lmL_169 in_X12_thrown se_X12_thrown sh_117 cf12 (c_X12_thrown hE hth) rfl (by decide) (Nat.le_of_ble_eq_true rfl) hc hs rfl ?_
      refine am_iload (am_dec tmL_law_15 21 rfl) rfl ?_
      refine am_icmp_eq (tgt := 1626) (am_dec tmL_law_15 22 rfl) (by decide) (fun _ => ?_) (fun h => absurd rfl h)
      refine am_iload (am_dec tmL_law_15 25 rfl) rfl ?_
      refine am_if_ne (tgt := 1643) (am_dec tmL_law_15 26 rfl) (by decide) (fun _ => ?_) (fun h => absurd h (by decide))
      refine am_goto (tgt := 3717) (am_dec tmL_law_15 36 rfl) (by decide) ?_
      refine am_pick [0, 1, 2, 3, 4] rfl ?_
      exact k
    · cases b0
set_option maxRecDepth 100000 in
set_option maxHeartbeats 4000000 in
theorem lw_part {E : am_E} (hE : am_EH E) {D : am_D} (q : k_Q D D) {mc ms cu su i : Nat} (hL : am_L E ≤ 3072) (hi : i + 6 ≤ am_L E) (hc : cu + 1 ≤ mc) (hs : su + 6 ≤ ms) : ∃ D1, k_Q D1 D1 ∧ ∀ (o : am_O) (G' : am_G) (D' : am_D), am_S E mL_law 12 mc ms o G' D' (cu + 1) (su + 6) 3717 [(0, .ref 0), (1, .ref 16), (2, .ref 117), (3, .ref 2637), (4, .int (Int32.ofNat i))] [] am_G0 D1 → am_S E mL_law 12 mc ms o G' D' cu su 1646 [(0, .ref 0), (1, .ref 16), (2, .ref 117), (3, .ref 2637), (4, .int (Int32.ofNat i))] [] am_G0 D := by
  rcases k_joinE (f1 := fun D => f_X11_part (am_x E (i + 1)) (am_x E (i + 2)) (am_x E (i + 3)) (am_x E (i + 4)) D) (f2 := fun D => f_X12_part (am_x E (i + 1)) (am_x E (i + 2)) (am_x E (i + 3)) (am_x E (i + 4)) D) (ex := ["java/lang/IllegalArgumentException"]) (fun v => v.toInt64) (fun D E9 h => op_part h (am_x E (i + 1)) (am_x E (i + 2)) (am_x E (i + 3)) (am_x E (i + 4))) q with ⟨D1, D2, v, a1, a2, a3, a4, a5⟩ | ⟨D1, D2, u, j, nm, b0, b1, b2, b3, b4⟩
  · refine ⟨D2, a4, fun o G' D' k => ?_⟩
    have hth : f_X12_thrown D2 = some (0 : Int32) := by rw [← a3]; rfl
    have hld : am_gL D2 2637 1 0 = some (D2.2 2637 0) := k_gl (k := 0) (by decide) (by decide)
    have hcu : ∀ _ : Unit, cu + 1 ≤ mc := fun _ => hc
    have hsu : ∀ _ : Unit, su + 6 ≤ ms := fun _ => hs
    refine am_aload_n (am_dec tmL_law_15 37 rfl) rfl rfl ?_
    refine am_aload_n (am_dec tmL_law_15 38 rfl) rfl rfl ?_
    refine am_iload (am_dec tmL_law_15 39 rfl) rfl ?_
    refine am_iconst (v := (1 : Int32)) (am_dec tmL_law_15 40 rfl) (by decide) ?_
    refine am_iadd (am_dec tmL_law_15 41 rfl) ?_
    refine am_sld (j := i + 1) hE (am_dec tmL_law_15 42 rfl) (k_iz i 1) (by omega) hL ?_
    refine am_aload_n (am_dec tmL_law_15 43 rfl) rfl rfl ?_
    refine am_iload (am_dec tmL_law_15 44 rfl) rfl ?_
    refine am_iconst (v := (2 : Int32)) (am_dec tmL_law_15 45 rfl) (by decide) ?_
    refine am_iadd (am_dec tmL_law_15 46 rfl) ?_
    refine am_sld (j := i + 2) hE (am_dec tmL_law_15 47 rfl) (k_iz i 2) (by omega) hL ?_
    refine am_aload_n (am_dec tmL_law_15 48 rfl) rfl rfl ?_
    refine am_iload (am_dec tmL_law_15 49 rfl) rfl ?_
    refine am_iconst (v := (3 : Int32)) (am_dec tmL_law_15 50 rfl) (by decide) ?_
    refine am_iadd (am_dec tmL_law_15 51 rfl) ?_
    refine am_sld (j := i + 3) hE (am_dec tmL_law_15 52 rfl) (k_iz i 3) (by omega) hL ?_
    refine am_aload_n (am_dec tmL_law_15 53 rfl) rfl rfl ?_
    refine am_iload (am_dec tmL_law_15 54 rfl) rfl ?_
    refine am_iconst (v := (4 : Int32)) (am_dec tmL_law_15 55 rfl) (by decide) ?_
    refine am_iadd (am_dec tmL_law_15 56 rfl) ?_
    refine am_sld (j := i + 4) hE (am_dec tmL_law_15 57 rfl) (k_iz i 4) (by omega) hL ?_
    refine am_aload_n (am_dec tmL_law_15 58 rfl) rfl rfl ?_
    refine am_callSH (As := [.ref 16, .int (am_x E (i + 1)), .int (am_x E (i + 2)), .int (am_x E (i + 3)), .int (am_x E (i + 4)), .ref 2637]) (st := []) (am_dec tmL_law_15 59 rfl) ok_L_part (fun h => nomatch h) lmL_246 st_L_part (cw_part hE a1) rfl (by decide) (Nat.le_of_ble_eq_true rfl) hc hs rfl ?_
    refine am_istore (lv' := [(0, .ref 0), (1, .ref 16), (2, .ref 117), (3, .ref 2637), (4, .int (Int32.ofNat i)), (5, .int (0 : Int32))]) (am_dec tmL_law_16 0 rfl) (by decide) rfl ?_
    refine am_aload_n (am_dec tmL_law_16 1 rfl) rfl rfl ?_
    refine am_aload_n (am_dec tmL_law_16 2 rfl) rfl rfl ?_
    refine am_iload (am_dec tmL_law_16 3 rfl) rfl ?_
    refine am_iconst (v := (1 : Int32)) (am_dec tmL_law_16 4 rfl) (by decide) ?_
    refine am_iadd (am_dec tmL_law_16 5 rfl) ?_
    refine am_sld (j := i + 1) hE (am_dec tmL_law_16 6 rfl) (k_iz i 1) (by omega) hL ?_
    refine am_aload_n (am_dec tmL_law_16 7 rfl) rfl rfl ?_
    refine am_iload (am_dec tmL_law_16 8 rfl) rfl ?_
    refine am_iconst (v := (2 : Int32)) (am_dec tmL_law_16 9 rfl) (by decide) ?_
    refine am_iadd (am_dec tmL_law_16 10 rfl) ?_
    refine am_sld (j := i + 2) hE (am_dec tmL_law_16 11 rfl) (k_iz i 2) (by omega) hL ?_
    refine am_aload_n (am_dec tmL_law_16 12 rfl) rfl rfl ?_
    refine am_iload (am_dec tmL_law_16 13 rfl) rfl ?_
    refine am_iconst (v := (3 : Int32)) (am_dec tmL_law_16 14 rfl) (by decide) ?_
    refine am_iadd (am_dec tmL_law_16 15 rfl) ?_
    refine am_sld (j := i + 3) hE (am_dec tmL_law_16 16 rfl) (k_iz i 3) (by omega) hL ?_
    refine am_aload_n (am_dec tmL_law_16 17 rfl) rfl rfl ?_
    refine am_iload (am_dec tmL_law_16 18 rfl) rfl ?_
    refine am_iconst (v := (4 : Int32)) (am_dec tmL_law_16 19 rfl) (by decide) ?_
    refine am_iadd (am_dec tmL_law_16 20 rfl) ?_
    refine am_sld (j := i + 4) hE (am_dec tmL_law_16 21 rfl) (k_iz i 4) (by omega) hL ?_
    refine am_callV1 (As := [.int (am_x E (i + 1)), .int (am_x E (i + 2)), .int (am_x E (i + 3)), .int (am_x E (i + 4))]) (st := []) hE (am_dec tmL_law_16 22 rfl) ok_X12_part rfl lmL_249 in_X12_part se_X12_part sh_117 cf12 (c_X12_part hE a2) rfl (by decide) (Nat.le_of_ble_eq_true rfl) hc hs rfl ?_
    refine am_istore (lv' := [(0, .ref 0), (1, .ref 16), (2, .ref 117), (3, .ref 2637), (4, .int (Int32.ofNat i)), (5, .int (0 : Int32)), (6, .int v)]) (am_dec tmL_law_16 23 rfl) (by decide) rfl ?_
    refine am_aload_n (am_dec tmL_law_16 24 rfl) rfl rfl ?_
    refine am_callV1 (As := []) (st := []) hE (am_dec tmL_law_16 25 rfl) ok_X12_thrown rfl lmL_169 in_X12_thrown se_X12_thrown sh_117 cf12 (c_X12_thrown hE hth) rfl (by decide) (Nat.le_of_ble_eq_true rfl) hc hs rfl ?_
    refine am_iload (am_dec tmL_law_16 26 rfl) rfl ?_
    refine am_icmp_eq (tgt := 1718) (am_dec tmL_law_16 27 rfl) (by decide) (fun _ => ?_) (fun h => absurd rfl h)
    refine am_iload (am_dec tmL_law_16 30 rfl) rfl ?_
    refine am_if_ne (tgt := 1735) (am_dec tmL_law_16 31 rfl) (by decide) (fun h => absurd rfl h) (fun _ => ?_)
    refine am_aload_n (am_dec tmL_law_16 32 rfl) rfl rfl ?_
    refine am_iconst (v := (0 : Int32)) (am_dec tmL_law_16 33 rfl) (by decide) ?_
    refine am_lald2 (n := 1) (i := 0) (v := v.toInt64) hE (am_dec tmL_law_16 34 rfl) shq_2637 (hld.trans (congrArg some a5)) ?_
    refine am_iload (am_dec tmL_law_16 35 rfl) rfl ?_
    refine am_i2l (am_dec tmL_law_16 36 rfl) ?_
    refine am_lcmp (am_dec tmL_law_16 37 rfl) ?_
    refine am_if_eq (tgt := 1735) (am_dec tmL_law_16 38 rfl) (by decide) (fun _ => ?_) (fun h => absurd (k_cmp _) h)
    refine am_goto (tgt := 3717) (am_dec tmL_law_16 41 rfl) (by decide) ?_
    refine am_pick [0, 1, 2, 3, 4] rfl ?_
    exact k
  · rcases j with _ | j
    · cases b0
      refine ⟨D2, b4, fun o G' D' k => ?_⟩
      have hth : f_X12_thrown D2 = some (Int32.ofNat 1) := by rw [← b3]; rfl
      refine am_aload_n (am_dec tmL_law_15 37 rfl) rfl rfl ?_
      refine am_aload_n (am_dec tmL_law_15 38 rfl) rfl rfl ?_
      refine am_iload (am_dec tmL_law_15 39 rfl) rfl ?_
      refine am_iconst (v := (1 : Int32)) (am_dec tmL_law_15 40 rfl) (by decide) ?_
      refine am_iadd (am_dec tmL_law_15 41 rfl) ?_
      refine am_sld (j := i + 1) hE (am_dec tmL_law_15 42 rfl) (k_iz i 1) (by omega) hL ?_
      refine am_aload_n (am_dec tmL_law_15 43 rfl) rfl rfl ?_
      refine am_iload (am_dec tmL_law_15 44 rfl) rfl ?_
      refine am_iconst (v := (2 : Int32)) (am_dec tmL_law_15 45 rfl) (by decide) ?_
      refine am_iadd (am_dec tmL_law_15 46 rfl) ?_
      refine am_sld (j := i + 2) hE (am_dec tmL_law_15 47 rfl) (k_iz i 2) (by omega) hL ?_
      refine am_aload_n (am_dec tmL_law_15 48 rfl) rfl rfl ?_
      refine am_iload (am_dec tmL_law_15 49 rfl) rfl ?_
      refine am_iconst (v := (3 : Int32)) (am_dec tmL_law_15 50 rfl) (by decide) ?_
      refine am_iadd (am_dec tmL_law_15 51 rfl) ?_
      refine am_sld (j := i + 3) hE (am_dec tmL_law_15 52 rfl) (k_iz i 3) (by omega) hL ?_
      refine am_aload_n (am_dec tmL_law_15 53 rfl) rfl rfl ?_
      refine am_iload (am_dec tmL_law_15 54 rfl) rfl ?_
      refine am_iconst (v := (4 : Int32)) (am_dec tmL_law_15 55 rfl) (by decide) ?_
      refine am_iadd (am_dec tmL_law_15 56 rfl) ?_
      refine am_sld (j := i + 4) hE (am_dec tmL_law_15 57 rfl) (k_iz i 4) (by omega) hL ?_
      refine am_aload_n (am_dec tmL_law_15 58 rfl) rfl rfl ?_
      refine am_callSH (As := [.ref 16, .int (am_x E (i + 1)), .int (am_x E (i + 2)), .int (am_x E (i + 3)), .int (am_x E (i + 4)), .ref 2637]) (st := []) (am_dec tmL_law_15 59 rfl) ok_L_part (fun h => nomatch h) lmL_246 st_L_part (xw_part_1 hE b1) rfl (by decide) (Nat.le_of_ble_eq_true rfl) hc hs rfl ?_
      refine am_istore (lv' := [(0, .ref 0), (1, .ref 16), (2, .ref 117), (3, .ref 2637), (4, .int (Int32.ofNat i)), (5, .int (1 : Int32))]) (am_dec tmL_law_16 0 rfl) (by decide) rfl ?_
      refine am_aload_n (am_dec tmL_law_16 1 rfl) rfl rfl ?_
      refine am_aload_n (am_dec tmL_law_16 2 rfl) rfl rfl ?_
      refine am_iload (am_dec tmL_law_16 3 rfl) rfl ?_
      refine am_iconst (v := (1 : Int32)) (am_dec tmL_law_16 4 rfl) (by decide) ?_
      refine am_iadd (am_dec tmL_law_16 5 rfl) ?_
      refine am_sld (j := i + 1) hE (am_dec tmL_law_16 6 rfl) (k_iz i 1) (by omega) hL ?_
      refine am_aload_n (am_dec tmL_law_16 7 rfl) rfl rfl ?_
      refine am_iload (am_dec tmL_law_16 8 rfl) rfl ?_
      refine am_iconst (v := (2 : Int32)) (am_dec tmL_law_16 9 rfl) (by decide) ?_
      refine am_iadd (am_dec tmL_law_16 10 rfl) ?_
      refine am_sld (j := i + 2) hE (am_dec tmL_law_16 11 rfl) (k_iz i 2) (by omega) hL ?_
      refine am_aload_n (am_dec tmL_law_16 12 rfl) rfl rfl ?_
      refine am_iload (am_dec tmL_law_16 13 rfl) rfl ?_
      refine am_iconst (v := (3 : Int32)) (am_dec tmL_law_16 14 rfl) (by decide) ?_
      refine am_iadd (am_dec tmL_law_16 15 rfl) ?_
      refine am_sld (j := i + 3) hE (am_dec tmL_law_16 16 rfl) (k_iz i 3) (by omega) hL ?_
      refine am_aload_n (am_dec tmL_law_16 17 rfl) rfl rfl ?_
      refine am_iload (am_dec tmL_law_16 18 rfl) rfl ?_
      refine am_iconst (v := (4 : Int32)) (am_dec tmL_law_16 19 rfl) (by decide) ?_
      refine am_iadd (am_dec tmL_law_16 20 rfl) ?_
      refine am_sld (j := i + 4) hE (am_dec tmL_law_16 21 rfl) (k_iz i 4) (by omega) hL ?_
      refine am_callV1 (As := [.int (am_x E (i + 1)), .int (am_x E (i + 2)), .int (am_x E (i + 3)), .int (am_x E (i + 4))]) (st := []) hE (am_dec tmL_law_16 22 rfl) ok_X12_part rfl lmL_249 in_X12_part se_X12_part sh_117 cf12 (c_X12_part hE b2) rfl (by decide) (Nat.le_of_ble_eq_true rfl) hc hs rfl ?_
      refine am_istore (lv' := [(0, .ref 0), (1, .ref 16), (2, .ref 117), (3, .ref 2637), (4, .int (Int32.ofNat i)), (5, .int (1 : Int32)), (6, .int u)]) (am_dec tmL_law_16 23 rfl) (by decide) rfl ?_
      refine am_aload_n (am_dec tmL_law_16 24 rfl) rfl rfl ?_
      refine am_callV1 (As := []) (st := []) hE (am_dec tmL_law_16 25 rfl) ok_X12_thrown rfl lmL_169 in_X12_thrown se_X12_thrown sh_117 cf12 (c_X12_thrown hE hth) rfl (by decide) (Nat.le_of_ble_eq_true rfl) hc hs rfl ?_
      refine am_iload (am_dec tmL_law_16 26 rfl) rfl ?_
      refine am_icmp_eq (tgt := 1718) (am_dec tmL_law_16 27 rfl) (by decide) (fun _ => ?_) (fun h => absurd rfl h)
      refine am_iload (am_dec tmL_law_16 30 rfl) rfl ?_
      refine am_if_ne (tgt := 1735) (am_dec tmL_law_16 31 rfl) (by decide) (fun _ => ?_) (fun h => absurd h (by decide))
      refine am_goto (tgt := 3717) (am_dec tmL_law_16 41 rfl) (by decide) ?_
      refine am_pick [0, 1, 2, 3, 4] rfl ?_
      exact k
    · cases b0
set_option maxRecDepth 100000 in
set_option maxHeartbeats 4000000 in
theorem lw_planned {E : am_E} (hE : am_EH E) {D : am_D} (q : k_Q D D) {mc ms cu su i : Nat} (hL : am_L E ≤ 3072) (hi : i + 6 ≤ am_L E) (hc : cu + 1 ≤ mc) (hs : su + 6 ≤ ms) : ∃ D1, k_Q D1 D1 ∧ ∀ (o : am_O) (G' : am_G) (D' : am_D), am_S E mL_law 12 mc ms o G' D' (cu + 1) (su + 6) 3717 [(0, .ref 0), (1, .ref 16), (2, .ref 117), (3, .ref 2637), (4, .int (Int32.ofNat i))] [] am_G0 D1 → am_S E mL_law 12 mc ms o G' D' cu su 1738 [(0, .ref 0), (1, .ref 16), (2, .ref 117), (3, .ref 2637), (4, .int (Int32.ofNat i))] [] am_G0 D := by
  rcases k_joinE (f1 := fun D => f_X11_planned (am_x E (i + 1)) (am_x E (i + 2)) D) (f2 := fun D => f_X12_planned (am_x E (i + 1)) (am_x E (i + 2)) D) (ex := ["java/lang/IllegalArgumentException"]) (fun v => v.toInt64) (fun D E9 h => op_planned h (am_x E (i + 1)) (am_x E (i + 2))) q with ⟨D1, D2, v, a1, a2, a3, a4, a5⟩ | ⟨D1, D2, u, j, nm, b0, b1, b2, b3, b4⟩
  · refine ⟨D2, a4, fun o G' D' k => ?_⟩
    have hth : f_X12_thrown D2 = some (0 : Int32) := by rw [← a3]; rfl
    have hld : am_gL D2 2637 1 0 = some (D2.2 2637 0) := k_gl (k := 0) (by decide) (by decide)
    have hcu : ∀ _ : Unit, cu + 1 ≤ mc := fun _ => hc
    have hsu : ∀ _ : Unit, su + 6 ≤ ms := fun _ => hs
    refine am_aload_n (am_dec tmL_law_16 42 rfl) rfl rfl ?_
    refine am_aload_n (am_dec tmL_law_16 43 rfl) rfl rfl ?_
    refine am_iload (am_dec tmL_law_16 44 rfl) rfl ?_
    refine am_iconst (v := (1 : Int32)) (am_dec tmL_law_16 45 rfl) (by decide) ?_
    refine am_iadd (am_dec tmL_law_16 46 rfl) ?_
    refine am_sld (j := i + 1) hE (am_dec tmL_law_16 47 rfl) (k_iz i 1) (by omega) hL ?_
    refine am_aload_n (am_dec tmL_law_16 48 rfl) rfl rfl ?_
    refine am_iload (am_dec tmL_law_16 49 rfl) rfl ?_
    refine am_iconst (v := (2 : Int32)) (am_dec tmL_law_16 50 rfl) (by decide) ?_
    refine am_iadd (am_dec tmL_law_16 51 rfl) ?_
    refine am_sld (j := i + 2) hE (am_dec tmL_law_16 52 rfl) (k_iz i 2) (by omega) hL ?_
    refine am_aload_n (am_dec tmL_law_16 53 rfl) rfl rfl ?_
    refine am_callSH (As := [.ref 16, .int (am_x E (i + 1)), .int (am_x E (i + 2)), .ref 2637]) (st := []) (am_dec tmL_law_16 54 rfl) ok_L_planned (fun h => nomatch h) lmL_250 st_L_planned (cw_planned hE a1) rfl (by decide) (Nat.le_of_ble_eq_true rfl) hc hs rfl ?_
    refine am_istore (lv' := [(0, .ref 0), (1, .ref 16), (2, .ref 117), (3, .ref 2637), (4, .int (Int32.ofNat i)), (5, .int (0 : Int32))]) (am_dec tmL_law_16 55 rfl) (by decide) rfl ?_
    refine am_aload_n (am_dec tmL_law_16 56 rfl) rfl rfl ?_
    refine am_aload_n (am_dec tmL_law_16 57 rfl) rfl rfl ?_
    refine am_iload (am_dec tmL_law_16 58 rfl) rfl ?_
    refine am_iconst (v := (1 : Int32)) (am_dec tmL_law_16 59 rfl) (by decide) ?_
    refine am_iadd (am_dec tmL_law_17 0 rfl) ?_
    refine am_sld (j := i + 1) hE (am_dec tmL_law_17 1 rfl) (k_iz i 1) (by omega) hL ?_
    refine am_aload_n (am_dec tmL_law_17 2 rfl) rfl rfl ?_
    refine am_iload (am_dec tmL_law_17 3 rfl) rfl ?_
    refine am_iconst (v := (2 : Int32)) (am_dec tmL_law_17 4 rfl) (by decide) ?_
    refine am_iadd (am_dec tmL_law_17 5 rfl) ?_
    refine am_sld (j := i + 2) hE (am_dec tmL_law_17 6 rfl) (k_iz i 2) (by omega) hL ?_
    refine am_callV1 (As := [.int (am_x E (i + 1)), .int (am_x E (i + 2))]) (st := []) hE (am_dec tmL_law_17 7 rfl) ok_X12_planned rfl lmL_252 in_X12_planned se_X12_planned sh_117 cf12 (c_X12_planned hE a2) rfl (by decide) (Nat.le_of_ble_eq_true rfl) hc hs rfl ?_
    refine am_istore (lv' := [(0, .ref 0), (1, .ref 16), (2, .ref 117), (3, .ref 2637), (4, .int (Int32.ofNat i)), (5, .int (0 : Int32)), (6, .int v)]) (am_dec tmL_law_17 8 rfl) (by decide) rfl ?_
    refine am_aload_n (am_dec tmL_law_17 9 rfl) rfl rfl ?_
    refine am_callV1 (As := []) (st := []) hE (am_dec tmL_law_17 10 rfl) ok_X12_thrown rfl lmL_169 in_X12_thrown se_X12_thrown sh_117 cf12 (c_X12_thrown hE hth) rfl (by decide) (Nat.le_of_ble_eq_true rfl) hc hs rfl ?_
    refine am_iload (am_dec tmL_law_17 11 rfl) rfl ?_
    refine am_icmp_eq (tgt := 1786) (am_dec tmL_law_17 12 rfl) (by decide) (fun _ => ?_) (fun h => absurd rfl h)
    refine am_iload (am_dec tmL_law_17 15 rfl) rfl ?_
    refine am_if_ne (tgt := 1803) (am_dec tmL_law_17 16 rfl) (by decide) (fun h => absurd rfl h) (fun _ => ?_)
    refine am_aload_n (am_dec tmL_law_17 17 rfl) rfl rfl ?_
    refine am_iconst (v := (0 : Int32)) (am_dec tmL_law_17 18 rfl) (by decide) ?_
    refine am_lald2 (n := 1) (i := 0) (v := v.toInt64) hE (am_dec tmL_law_17 19 rfl) shq_2637 (hld.trans (congrArg some a5)) ?_
    refine am_iload (am_dec tmL_law_17 20 rfl) rfl ?_
    refine am_i2l (am_dec tmL_law_17 21 rfl) ?_
    refine am_lcmp (am_dec tmL_law_17 22 rfl) ?_
    refine am_if_eq (tgt := 1803) (am_dec tmL_law_17 23 rfl) (by decide) (fun _ => ?_) (fun h => absurd (k_cmp _) h)
    refine am_goto (tgt := 3717) (am_dec tmL_law_17 26 rfl) (by decide) ?_
    refine am_pick [0, 1, 2, 3, 4] rfl ?_
    exact k
  · rcases j with _ | j
    · cases b0
      refine ⟨D2, b4, fun o G' D' k => ?_⟩
      have hth : f_X12_thrown D2 = some (Int32.ofNat 1) := by rw [← b3]; rfl
      refine am_aload_n (am_dec tmL_law_16 42 rfl) rfl rfl ?_
      refine am_aload_n (am_dec tmL_law_16 43 rfl) rfl rfl ?_
      refine am_iload (am_dec tmL_law_16 44 rfl) rfl ?_
      refine am_iconst (v := (1 : Int32)) (am_dec tmL_law_16 45 rfl) (by decide) ?_
      refine am_iadd (am_dec tmL_law_16 46 rfl) ?_
      refine am_sld (j := i + 1) hE (am_dec tmL_law_16 47 rfl) (k_iz i 1) (by omega) hL ?_
      refine am_aload_n (am_dec tmL_law_16 48 rfl) rfl rfl ?_
      refine am_iload (am_dec tmL_law_16 49 rfl) rfl ?_
      refine am_iconst (v := (2 : Int32)) (am_dec tmL_law_16 50 rfl) (by decide) ?_
      refine am_iadd (am_dec tmL_law_16 51 rfl) ?_
      refine am_sld (j := i + 2) hE (am_dec tmL_law_16 52 rfl) (k_iz i 2) (by omega) hL ?_
      refine am_aload_n (am_dec tmL_law_16 53 rfl) rfl rfl ?_
      refine am_callSH (As := [.ref 16, .int (am_x E (i + 1)), .int (am_x E (i + 2)), .ref 2637]) (st := []) (am_dec tmL_law_16 54 rfl) ok_L_planned (fun h => nomatch h) lmL_250 st_L_planned (xw_planned_1 hE b1) rfl (by decide) (Nat.le_of_ble_eq_true rfl) hc hs rfl ?_
      refine am_istore (lv' := [(0, .ref 0), (1, .ref 16), (2, .ref 117), (3, .ref 2637), (4, .int (Int32.ofNat i)), (5, .int (1 : Int32))]) (am_dec tmL_law_16 55 rfl) (by decide) rfl ?_
      refine am_aload_n (am_dec tmL_law_16 56 rfl) rfl rfl ?_
      refine am_aload_n (am_dec tmL_law_16 57 rfl) rfl rfl ?_
      refine am_iload (am_dec tmL_law_16 58 rfl) rfl ?_
      refine am_iconst (v := (1 : Int32)) (am_dec tmL_law_16 59 rfl) (by decide) ?_
      refine am_iadd (am_dec tmL_law_17 0 rfl) ?_
      refine am_sld (j := i + 1) hE (am_dec tmL_law_17 1 rfl) (k_iz i 1) (by omega) hL ?_
      refine am_aload_n (am_dec tmL_law_17 2 rfl) rfl rfl ?_
      refine am_iload (am_dec tmL_law_17 3 rfl) rfl ?_
      refine am_iconst (v := (2 : Int32)) (am_dec tmL_law_17 4 rfl) (by decide) ?_
      refine am_iadd (am_dec tmL_law_17 5 rfl) ?_
      refine am_sld (j := i + 2) hE (am_dec tmL_law_17 6 rfl) (k_iz i 2) (by omega) hL ?_
      refine am_callV1 (As := [.int (am_x E (i + 1)), .int (am_x E (i + 2))]) (st := []) hE (am_dec tmL_law_17 7 rfl) ok_X12_planned rfl lmL_252 in_X12_planned se_X12_planned sh_117 cf12 (c_X12_planned hE b2) rfl (by decide) (Nat.le_of_ble_eq_true rfl) hc hs rfl ?_
      refine am_istore (lv' := [(0, .ref 0), (1, .ref 16), (2, .ref 117), (3, .ref 2637), (4, .int (Int32.ofNat i)), (5, .int (1 : Int32)), (6, .int u)]) (am_dec tmL_law_17 8 rfl) (by decide) rfl ?_
      refine am_aload_n (am_dec tmL_law_17 9 rfl) rfl rfl ?_
      refine am_callV1 (As := []) (st := []) hE (am_dec tmL_law_17 10 rfl) ok_X12_thrown rfl lmL_169 in_X12_thrown se_X12_thrown sh_117 cf12 (c_X12_thrown hE hth) rfl (by decide) (Nat.le_of_ble_eq_true rfl) hc hs rfl ?_
      refine am_iload (am_dec tmL_law_17 11 rfl) rfl ?_
      refine am_icmp_eq (tgt := 1786) (am_dec tmL_law_17 12 rfl) (by decide) (fun _ => ?_) (fun h => absurd rfl h)
      refine am_iload (am_dec tmL_law_17 15 rfl) rfl ?_
      refine am_if_ne (tgt := 1803) (am_dec tmL_law_17 16 rfl) (by decide) (fun _ => ?_) (fun h => absurd h (by decide))
      refine am_goto (tgt := 3717) (am_dec tmL_law_17 26 rfl) (by decide) ?_
      refine am_pick [0, 1, 2, 3, 4] rfl ?_
      exact k
    · cases b0
set_option maxRecDepth 100000 in
set_option maxHeartbeats 4000000 in
theorem lw_planMap {E : am_E} (hE : am_EH E) {D : am_D} (q : k_Q D D) {mc ms cu su i : Nat} (hL : am_L E ≤ 3072) (hi : i + 6 ≤ am_L E) (hc : cu + 1 ≤ mc) (hs : su + 6 ≤ ms) : ∃ D1, k_Q D1 D1 ∧ ∀ (o : am_O) (G' : am_G) (D' : am_D), am_S E mL_law 12 mc ms o G' D' (cu + 1) (su + 6) 3717 [(0, .ref 0), (1, .ref 16), (2, .ref 117), (3, .ref 2637), (4, .int (Int32.ofNat i))] [] am_G0 D1 → am_S E mL_law 12 mc ms o G' D' cu su 1806 [(0, .ref 0), (1, .ref 16), (2, .ref 117), (3, .ref 2637), (4, .int (Int32.ofNat i))] [] am_G0 D := by
  rcases k_joinE (f1 := fun D => f_X11_planMap (am_x E (i + 1)) D) (f2 := fun D => f_X12_planMap (am_x E (i + 1)) D) (ex := ["java/lang/IllegalArgumentException"]) (fun v => v.toInt64) (fun D E9 h => op_planMap h (am_x E (i + 1))) q with ⟨D1, D2, v, a1, a2, a3, a4, a5⟩ | ⟨D1, D2, u, j, nm, b0, b1, b2, b3, b4⟩
  · refine ⟨D2, a4, fun o G' D' k => ?_⟩
    have hth : f_X12_thrown D2 = some (0 : Int32) := by rw [← a3]; rfl
    have hld : am_gL D2 2637 1 0 = some (D2.2 2637 0) := k_gl (k := 0) (by decide) (by decide)
    have hcu : ∀ _ : Unit, cu + 1 ≤ mc := fun _ => hc
    have hsu : ∀ _ : Unit, su + 6 ≤ ms := fun _ => hs
    refine am_aload_n (am_dec tmL_law_17 27 rfl) rfl rfl ?_
    refine am_aload_n (am_dec tmL_law_17 28 rfl) rfl rfl ?_
    refine am_iload (am_dec tmL_law_17 29 rfl) rfl ?_
    refine am_iconst (v := (1 : Int32)) (am_dec tmL_law_17 30 rfl) (by decide) ?_
    refine am_iadd (am_dec tmL_law_17 31 rfl) ?_
    refine am_sld (j := i + 1) hE (am_dec tmL_law_17 32 rfl) (k_iz i 1) (by omega) hL ?_
    refine am_aload_n (am_dec tmL_law_17 33 rfl) rfl rfl ?_
    refine am_callSH (As := [.ref 16, .int (am_x E (i + 1)), .ref 2637]) (st := []) (am_dec tmL_law_17 34 rfl) ok_L_planMap (fun h => nomatch h) lmL_253 st_L_planMap (cw_planMap hE a1) rfl (by decide) (Nat.le_of_ble_eq_true rfl) hc hs rfl ?_
    refine am_istore (lv' := [(0, .ref 0), (1, .ref 16), (2, .ref 117), (3, .ref 2637), (4, .int (Int32.ofNat i)), (5, .int (0 : Int32))]) (am_dec tmL_law_17 35 rfl) (by decide) rfl ?_
    refine am_aload_n (am_dec tmL_law_17 36 rfl) rfl rfl ?_
    refine am_aload_n (am_dec tmL_law_17 37 rfl) rfl rfl ?_
    refine am_iload (am_dec tmL_law_17 38 rfl) rfl ?_
    refine am_iconst (v := (1 : Int32)) (am_dec tmL_law_17 39 rfl) (by decide) ?_
    refine am_iadd (am_dec tmL_law_17 40 rfl) ?_
    refine am_sld (j := i + 1) hE (am_dec tmL_law_17 41 rfl) (k_iz i 1) (by omega) hL ?_
    refine am_callV1 (As := [.int (am_x E (i + 1))]) (st := []) hE (am_dec tmL_law_17 42 rfl) ok_X12_planMap rfl lmL_255 in_X12_planMap se_X12_planMap sh_117 cf12 (c_X12_planMap hE a2) rfl (by decide) (Nat.le_of_ble_eq_true rfl) hc hs rfl ?_
    refine am_istore (lv' := [(0, .ref 0), (1, .ref 16), (2, .ref 117), (3, .ref 2637), (4, .int (Int32.ofNat i)), (5, .int (0 : Int32)), (6, .int v)]) (am_dec tmL_law_17 43 rfl) (by decide) rfl ?_
    refine am_aload_n (am_dec tmL_law_17 44 rfl) rfl rfl ?_
    refine am_callV1 (As := []) (st := []) hE (am_dec tmL_law_17 45 rfl) ok_X12_thrown rfl lmL_169 in_X12_thrown se_X12_thrown sh_117 cf12 (c_X12_thrown hE hth) rfl (by decide) (Nat.le_of_ble_eq_true rfl) hc hs rfl ?_
    refine am_iload (am_dec tmL_law_17 46 rfl) rfl ?_
    refine am_icmp_eq (tgt := 1842) (am_dec tmL_law_17 47 rfl) (by decide) (fun _ => ?_) (fun h => absurd rfl h)
    refine am_iload (am_dec tmL_law_17 50 rfl) rfl ?_
    refine am_if_ne (tgt := 1859) (am_dec tmL_law_17 51 rfl) (by decide) (fun h => absurd rfl h) (fun _ => ?_)
    refine am_aload_n (am_dec tmL_law_17 52 rfl) rfl rfl ?_
    refine am_iconst (v := (0 : Int32)) (am_dec tmL_law_17 53 rfl) (by decide) ?_
    refine am_lald2 (n := 1) (i := 0) (v := v.toInt64) hE (am_dec tmL_law_17 54 rfl) shq_2637 (hld.trans (congrArg some a5)) ?_
    refine am_iload (am_dec tmL_law_17 55 rfl) rfl ?_
    refine am_i2l (am_dec tmL_law_17 56 rfl) ?_
    refine am_lcmp (am_dec tmL_law_17 57 rfl) ?_
    refine am_if_eq (tgt := 1859) (am_dec tmL_law_17 58 rfl) (by decide) (fun _ => ?_) (fun h => absurd (k_cmp _) h)
    refine am_goto (tgt := 3717) (am_dec tmL_law_18 1 rfl) (by decide) ?_
    refine am_pick [0, 1, 2, 3, 4] rfl ?_
    exact k
  · rcases j with _ | j
    · cases b0
      refine ⟨D2, b4, fun o G' D' k => ?_⟩
      have hth : f_X12_thrown D2 = some (Int32.ofNat 1) := by rw [← b3]; rfl
      refine am_aload_n (am_dec tmL_law_17 27 rfl) rfl rfl ?_
      refine am_aload_n (am_dec tmL_law_17 28 rfl) rfl rfl ?_
      refine am_iload (am_dec tmL_law_17 29 rfl) rfl ?_
      refine am_iconst (v := (1 : Int32)) (am_dec tmL_law_17 30 rfl) (by decide) ?_
      refine am_iadd (am_dec tmL_law_17 31 rfl) ?_
      refine am_sld (j := i + 1) hE (am_dec tmL_law_17 32 rfl) (k_iz i 1) (by omega) hL ?_
      refine am_aload_n (am_dec tmL_law_17 33 rfl) rfl rfl ?_
      refine am_callSH (As := [.ref 16, .int (am_x E (i + 1)), .ref 2637]) (st := []) (am_dec tmL_law_17 34 rfl) ok_L_planMap (fun h => nomatch h) lmL_253 st_L_planMap (xw_planMap_1 hE b1) rfl (by decide) (Nat.le_of_ble_eq_true rfl) hc hs rfl ?_
      refine am_istore (lv' := [(0, .ref 0), (1, .ref 16), (2, .ref 117), (3, .ref 2637), (4, .int (Int32.ofNat i)), (5, .int (1 : Int32))]) (am_dec tmL_law_17 35 rfl) (by decide) rfl ?_
      refine am_aload_n (am_dec tmL_law_17 36 rfl) rfl rfl ?_
      refine am_aload_n (am_dec tmL_law_17 37 rfl) rfl rfl ?_
      refine am_iload (am_dec tmL_law_17 38 rfl) rfl ?_
      refine am_iconst (v := (1 : Int32)) (am_dec tmL_law_17 39 rfl) (by decide) ?_
      refine am_iadd (am_dec tmL_law_17 40 rfl) ?_
      refine am_sld (j := i + 1) hE (am_dec tmL_law_17 41 rfl) (k_iz i 1) (by omega) hL ?_
      refine am_callV1 (As := [.int (am_x E (i + 1))]) (st := []) hE (am_dec tmL_law_17 42 rfl) ok_X12_planMap rfl lmL_255 in_X12_planMap se_X12_planMap sh_117 cf12 (c_X12_planMap hE b2) rfl (by decide) (Nat.le_of_ble_eq_true rfl) hc hs rfl ?_
      refine am_istore (lv' := [(0, .ref 0), (1, .ref 16), (2, .ref 117), (3, .ref 2637), (4, .int (Int32.ofNat i)), (5, .int (1 : Int32)), (6, .int u)]) (am_dec tmL_law_17 43 rfl) (by decide) rfl ?_
      refine am_aload_n (am_dec tmL_law_17 44 rfl) rfl rfl ?_
      refine am_callV1 (As := []) (st := []) hE (am_dec tmL_law_17 45 rfl) ok_X12_thrown rfl lmL_169 in_X12_thrown se_X12_thrown sh_117 cf12 (c_X12_thrown hE hth) rfl (by decide) (Nat.le_of_ble_eq_true rfl) hc hs rfl ?_
      refine am_iload (am_dec tmL_law_17 46 rfl) rfl ?_
      refine am_icmp_eq (tgt := 1842) (am_dec tmL_law_17 47 rfl) (by decide) (fun _ => ?_) (fun h => absurd rfl h)
      refine am_iload (am_dec tmL_law_17 50 rfl) rfl ?_
      refine am_if_ne (tgt := 1859) (am_dec tmL_law_17 51 rfl) (by decide) (fun _ => ?_) (fun h => absurd h (by decide))
      refine am_goto (tgt := 3717) (am_dec tmL_law_18 1 rfl) (by decide) ?_
      refine am_pick [0, 1, 2, 3, 4] rfl ?_
      exact k
    · cases b0
set_option maxRecDepth 100000 in
set_option maxHeartbeats 4000000 in
theorem lw_pitch {E : am_E} (hE : am_EH E) {D : am_D} (q : k_Q D D) {mc ms cu su i : Nat} (hL : am_L E ≤ 3072) (hi : i + 6 ≤ am_L E) (hc : cu + 1 ≤ mc) (hs : su + 6 ≤ ms) : ∃ D1, k_Q D1 D1 ∧ ∀ (o : am_O) (G' : am_G) (D' : am_D), am_S E mL_law 12 mc ms o G' D' (cu + 1) (su + 6) 3717 [(0, .ref 0), (1, .ref 16), (2, .ref 117), (3, .ref 2637), (4, .int (Int32.ofNat i))] [] am_G0 D1 → am_S E mL_law 12 mc ms o G' D' cu su 1862 [(0, .ref 0), (1, .ref 16), (2, .ref 117), (3, .ref 2637), (4, .int (Int32.ofNat i))] [] am_G0 D := by
  rcases k_joinE (f1 := fun D => k_lf D (f_X11_pitch (am_x E (i + 1)) (am_x E (i + 2)) (am_x E (i + 3)) D)) (f2 := fun D => f_X12_pitch (am_x E (i + 1)) (am_x E (i + 2)) (am_x E (i + 3)) D) (ex := ["java/util/NoSuchElementException", "java/lang/IllegalArgumentException"]) (fun v => v.toInt64) (fun D E9 h => op_pitch h (am_x E (i + 1)) (am_x E (i + 2)) (am_x E (i + 3))) q with ⟨D1, D2, v, a1, a2, a3, a4, a5⟩ | ⟨D1, D2, u, j, nm, b0, b1, b2, b3, b4⟩
  · refine ⟨D2, a4, fun o G' D' k => ?_⟩
    have hth : f_X12_thrown D2 = some (0 : Int32) := by rw [← a3]; rfl
    have hld : am_gL D2 2637 1 0 = some (D2.2 2637 0) := k_gl (k := 0) (by decide) (by decide)
    have hcu : ∀ _ : Unit, cu + 1 ≤ mc := fun _ => hc
    have hsu : ∀ _ : Unit, su + 6 ≤ ms := fun _ => hs
    refine am_aload_n (am_dec tmL_law_18 2 rfl) rfl rfl ?_
    refine am_aload_n (am_dec tmL_law_18 3 rfl) rfl rfl ?_
    refine am_iload (am_dec tmL_law_18 4 rfl) rfl ?_
    refine am_iconst (v := (1 : Int32)) (am_dec tmL_law_18 5 rfl) (by decide) ?_
    refine am_iadd (am_dec tmL_law_18 6 rfl) ?_
    refine am_sld (j := i + 1) hE (am_dec tmL_law_18 7 rfl) (k_iz i 1) (by omega) hL ?_
    refine am_aload_n (am_dec tmL_law_18 8 rfl) rfl rfl ?_
    refine am_iload (am_dec tmL_law_18 9 rfl) rfl ?_
    refine am_iconst (v := (2 : Int32)) (am_dec tmL_law_18 10 rfl) (by decide) ?_
    refine am_iadd (am_dec tmL_law_18 11 rfl) ?_
    refine am_sld (j := i + 2) hE (am_dec tmL_law_18 12 rfl) (k_iz i 2) (by omega) hL ?_
    refine am_aload_n (am_dec tmL_law_18 13 rfl) rfl rfl ?_
    refine am_iload (am_dec tmL_law_18 14 rfl) rfl ?_
    refine am_iconst (v := (3 : Int32)) (am_dec tmL_law_18 15 rfl) (by decide) ?_
    refine am_iadd (am_dec tmL_law_18 16 rfl) ?_
    refine am_sld (j := i + 3) hE (am_dec tmL_law_18 17 rfl) (k_iz i 3) (by omega) hL ?_
    refine am_aload_n (am_dec tmL_law_18 18 rfl) rfl rfl ?_
    refine am_callSH (As := [.ref 16, .int (am_x E (i + 1)), .int (am_x E (i + 2)), .int (am_x E (i + 3)), .ref 2637]) (st := []) (am_dec tmL_law_18 19 rfl) ok_L_pitch (fun h => nomatch h) lmL_256 st_L_pitch (cw_pitch hE a1) rfl (by decide) (Nat.le_of_ble_eq_true rfl) hc hs rfl ?_
    refine am_istore (lv' := [(0, .ref 0), (1, .ref 16), (2, .ref 117), (3, .ref 2637), (4, .int (Int32.ofNat i)), (5, .int (0 : Int32))]) (am_dec tmL_law_18 20 rfl) (by decide) rfl ?_
    refine am_aload_n (am_dec tmL_law_18 21 rfl) rfl rfl ?_
    refine am_aload_n (am_dec tmL_law_18 22 rfl) rfl rfl ?_
    refine am_iload (am_dec tmL_law_18 23 rfl) rfl ?_
    refine am_iconst (v := (1 : Int32)) (am_dec tmL_law_18 24 rfl) (by decide) ?_
    refine am_iadd (am_dec tmL_law_18 25 rfl) ?_
    refine am_sld (j := i + 1) hE (am_dec tmL_law_18 26 rfl) (k_iz i 1) (by omega) hL ?_
    refine am_aload_n (am_dec tmL_law_18 27 rfl) rfl rfl ?_
    refine am_iload (am_dec tmL_law_18 28 rfl) rfl ?_
    refine am_iconst (v := (2 : Int32)) (am_dec tmL_law_18 29 rfl) (by decide) ?_
    refine am_iadd (am_dec tmL_law_18 30 rfl) ?_
    refine am_sld (j := i + 2) hE (am_dec tmL_law_18 31 rfl) (k_iz i 2) (by omega) hL ?_
    refine am_aload_n (am_dec tmL_law_18 32 rfl) rfl rfl ?_
    refine am_iload (am_dec tmL_law_18 33 rfl) rfl ?_
    refine am_iconst (v := (3 : Int32)) (am_dec tmL_law_18 34 rfl) (by decide) ?_
    refine am_iadd (am_dec tmL_law_18 35 rfl) ?_
    refine am_sld (j := i + 3) hE (am_dec tmL_law_18 36 rfl) (k_iz i 3) (by omega) hL ?_
    refine am_callV1 (As := [.int (am_x E (i + 1)), .int (am_x E (i + 2)), .int (am_x E (i + 3))]) (st := []) hE (am_dec tmL_law_18 37 rfl) ok_X12_pitch rfl lmL_258 in_X12_pitch se_X12_pitch sh_117 cf12 (c_X12_pitch hE a2) rfl (by decide) (Nat.le_of_ble_eq_true rfl) hc hs rfl ?_
    refine am_istore (lv' := [(0, .ref 0), (1, .ref 16), (2, .ref 117), (3, .ref 2637), (4, .int (Int32.ofNat i)), (5, .int (0 : Int32)), (6, .int v)]) (am_dec tmL_law_18 38 rfl) (by decide) rfl ?_
    refine am_aload_n (am_dec tmL_law_18 39 rfl) rfl rfl ?_
    refine am_callV1 (As := []) (st := []) hE (am_dec tmL_law_18 40 rfl) ok_X12_thrown rfl lmL_169 in_X12_thrown se_X12_thrown sh_117 cf12 (c_X12_thrown hE hth) rfl (by decide) (Nat.le_of_ble_eq_true rfl) hc hs rfl ?_
    refine am_iload (am_dec tmL_law_18 41 rfl) rfl ?_
    refine am_icmp_eq (tgt := 1922) (am_dec tmL_law_18 42 rfl) (by decide) (fun _ => ?_) (fun h => absurd rfl h)
    refine am_iload (am_dec tmL_law_18 45 rfl) rfl ?_
    refine am_if_ne (tgt := 1939) (am_dec tmL_law_18 46 rfl) (by decide) (fun h => absurd rfl h) (fun _ => ?_)
    refine am_aload_n (am_dec tmL_law_18 47 rfl) rfl rfl ?_
    refine am_iconst (v := (0 : Int32)) (am_dec tmL_law_18 48 rfl) (by decide) ?_
    refine am_lald2 (n := 1) (i := 0) (v := v.toInt64) hE (am_dec tmL_law_18 49 rfl) shq_2637 (hld.trans (congrArg some a5)) ?_
    refine am_iload (am_dec tmL_law_18 50 rfl) rfl ?_
    refine am_i2l (am_dec tmL_law_18 51 rfl) ?_
    refine am_lcmp (am_dec tmL_law_18 52 rfl) ?_
    refine am_if_eq (tgt := 1939) (am_dec tmL_law_18 53 rfl) (by decide) (fun _ => ?_) (fun h => absurd (k_cmp _) h)
    refine am_goto (tgt := 3717) (am_dec tmL_law_18 56 rfl) (by decide) ?_
    refine am_pick [0, 1, 2, 3, 4] rfl ?_
    exact k
  · rcases j with _ | _ | j
    · cases b0
      refine ⟨D2, b4, fun o G' D' k => ?_⟩
      have hth : f_X12_thrown D2 = some (Int32.ofNat 1) := by rw [← b3]; rfl
      refine am_aload_n (am_dec tmL_law_18 2 rfl) rfl rfl ?_
      refine am_aload_n (am_dec tmL_law_18 3 rfl) rfl rfl ?_
      refine am_iload (am_dec tmL_law_18 4 rfl) rfl ?_
      refine am_iconst (v := (1 : Int32)) (am_dec tmL_law_18 5 rfl) (by decide) ?_
      refine am_iadd (am_dec tmL_law_18 6 rfl) ?_
      refine am_sld (j := i + 1) hE (am_dec tmL_law_18 7 rfl) (k_iz i 1) (by omega) hL ?_
      refine am_aload_n (am_dec tmL_law_18 8 rfl) rfl rfl ?_
      refine am_iload (am_dec tmL_law_18 9 rfl) rfl ?_
      refine am_iconst (v := (2 : Int32)) (am_dec tmL_law_18 10 rfl) (by decide) ?_
      refine am_iadd (am_dec tmL_law_18 11 rfl) ?_
      refine am_sld (j := i + 2) hE (am_dec tmL_law_18 12 rfl) (k_iz i 2) (by omega) hL ?_
      refine am_aload_n (am_dec tmL_law_18 13 rfl) rfl rfl ?_
      refine am_iload (am_dec tmL_law_18 14 rfl) rfl ?_
      refine am_iconst (v := (3 : Int32)) (am_dec tmL_law_18 15 rfl) (by decide) ?_
      refine am_iadd (am_dec tmL_law_18 16 rfl) ?_
      refine am_sld (j := i + 3) hE (am_dec tmL_law_18 17 rfl) (k_iz i 3) (by omega) hL ?_
      refine am_aload_n (am_dec tmL_law_18 18 rfl) rfl rfl ?_
      refine am_callSH (As := [.ref 16, .int (am_x E (i + 1)), .int (am_x E (i + 2)), .int (am_x E (i + 3)), .ref 2637]) (st := []) (am_dec tmL_law_18 19 rfl) ok_L_pitch (fun h => nomatch h) lmL_256 st_L_pitch (xw_pitch_1 hE b1) rfl (by decide) (Nat.le_of_ble_eq_true rfl) hc hs rfl ?_
      refine am_istore (lv' := [(0, .ref 0), (1, .ref 16), (2, .ref 117), (3, .ref 2637), (4, .int (Int32.ofNat i)), (5, .int (1 : Int32))]) (am_dec tmL_law_18 20 rfl) (by decide) rfl ?_
      refine am_aload_n (am_dec tmL_law_18 21 rfl) rfl rfl ?_
      refine am_aload_n (am_dec tmL_law_18 22 rfl) rfl rfl ?_
      refine am_iload (am_dec tmL_law_18 23 rfl) rfl ?_
      refine am_iconst (v := (1 : Int32)) (am_dec tmL_law_18 24 rfl) (by decide) ?_
      refine am_iadd (am_dec tmL_law_18 25 rfl) ?_
      refine am_sld (j := i + 1) hE (am_dec tmL_law_18 26 rfl) (k_iz i 1) (by omega) hL ?_
      refine am_aload_n (am_dec tmL_law_18 27 rfl) rfl rfl ?_
      refine am_iload (am_dec tmL_law_18 28 rfl) rfl ?_
      refine am_iconst (v := (2 : Int32)) (am_dec tmL_law_18 29 rfl) (by decide) ?_
      refine am_iadd (am_dec tmL_law_18 30 rfl) ?_
      refine am_sld (j := i + 2) hE (am_dec tmL_law_18 31 rfl) (k_iz i 2) (by omega) hL ?_
      refine am_aload_n (am_dec tmL_law_18 32 rfl) rfl rfl ?_
      refine am_iload (am_dec tmL_law_18 33 rfl) rfl ?_
      refine am_iconst (v := (3 : Int32)) (am_dec tmL_law_18 34 rfl) (by decide) ?_
      refine am_iadd (am_dec tmL_law_18 35 rfl) ?_
      refine am_sld (j := i + 3) hE (am_dec tmL_law_18 36 rfl) (k_iz i 3) (by omega) hL ?_
      refine am_callV1 (As := [.int (am_x E (i + 1)), .int (am_x E (i + 2)), .int (am_x E (i + 3))]) (st := []) hE (am_dec tmL_law_18 37 rfl) ok_X12_pitch rfl lmL_258 in_X12_pitch se_X12_pitch sh_117 cf12 (c_X12_pitch hE b2) rfl (by decide) (Nat.le_of_ble_eq_true rfl) hc hs rfl ?_
      refine am_istore (lv' := [(0, .ref 0), (1, .ref 16), (2, .ref 117), (3, .ref 2637), (4, .int (Int32.ofNat i)), (5, .int (1 : Int32)), (6, .int u)]) (am_dec tmL_law_18 38 rfl) (by decide) rfl ?_
      refine am_aload_n (am_dec tmL_law_18 39 rfl) rfl rfl ?_
      refine am_callV1 (As := []) (st := []) hE (am_dec tmL_law_18 40 rfl) ok_X12_thrown rfl lmL_169 in_X12_thrown se_X12_thrown sh_117 cf12 (c_X12_thrown hE hth) rfl (by decide) (Nat.le_of_ble_eq_true rfl) hc hs rfl ?_
      refine am_iload (am_dec tmL_law_18 41 rfl) rfl ?_
      refine am_icmp_eq (tgt := 1922) (am_dec tmL_law_18 42 rfl) (by decide) (fun _ => ?_) (fun h => absurd rfl h)
      refine am_iload (am_dec tmL_law_18 45 rfl) rfl ?_
      refine am_if_ne (tgt := 1939) (am_dec tmL_law_18 46 rfl) (by decide) (fun _ => ?_) (fun h => absurd h (by decide))
      refine am_goto (tgt := 3717) (am_dec tmL_law_18 56 rfl) (by decide) ?_
      refine am_pick [0, 1, 2, 3, 4] rfl ?_
      exact k
    · cases b0
      refine ⟨D2, b4, fun o G' D' k => ?_⟩
      have hth : f_X12_thrown D2 = some (Int32.ofNat 2) := by rw [← b3]; rfl
      refine am_aload_n (am_dec tmL_law_18 2 rfl) rfl rfl ?_
      refine am_aload_n (am_dec tmL_law_18 3 rfl) rfl rfl ?_
      refine am_iload (am_dec tmL_law_18 4 rfl) rfl ?_
      refine am_iconst (v := (1 : Int32)) (am_dec tmL_law_18 5 rfl) (by decide) ?_
      refine am_iadd (am_dec tmL_law_18 6 rfl) ?_
      refine am_sld (j := i + 1) hE (am_dec tmL_law_18 7 rfl) (k_iz i 1) (by omega) hL ?_
      refine am_aload_n (am_dec tmL_law_18 8 rfl) rfl rfl ?_
      refine am_iload (am_dec tmL_law_18 9 rfl) rfl ?_
      refine am_iconst (v := (2 : Int32)) (am_dec tmL_law_18 10 rfl) (by decide) ?_
      refine am_iadd (am_dec tmL_law_18 11 rfl) ?_
      refine am_sld (j := i + 2) hE (am_dec tmL_law_18 12 rfl) (k_iz i 2) (by omega) hL ?_
      refine am_aload_n (am_dec tmL_law_18 13 rfl) rfl rfl ?_
      refine am_iload (am_dec tmL_law_18 14 rfl) rfl ?_
      refine am_iconst (v := (3 : Int32)) (am_dec tmL_law_18 15 rfl) (by decide) ?_
      refine am_iadd (am_dec tmL_law_18 16 rfl) ?_
      refine am_sld (j := i + 3) hE (am_dec tmL_law_18 17 rfl) (k_iz i 3) (by omega) hL ?_
      refine am_aload_n (am_dec tmL_law_18 18 rfl) rfl rfl ?_
      refine am_callSH (As := [.ref 16, .int (am_x E (i + 1)), .int (am_x E (i + 2)), .int (am_x E (i + 3)), .ref 2637]) (st := []) (am_dec tmL_law_18 19 rfl) ok_L_pitch (fun h => nomatch h) lmL_256 st_L_pitch (xw_pitch_2 hE b1) rfl (by decide) (Nat.le_of_ble_eq_true rfl) hc hs rfl ?_
      refine am_istore (lv' := [(0, .ref 0), (1, .ref 16), (2, .ref 117), (3, .ref 2637), (4, .int (Int32.ofNat i)), (5, .int (2 : Int32))]) (am_dec tmL_law_18 20 rfl) (by decide) rfl ?_
      refine am_aload_n (am_dec tmL_law_18 21 rfl) rfl rfl ?_
      refine am_aload_n (am_dec tmL_law_18 22 rfl) rfl rfl ?_
      refine am_iload (am_dec tmL_law_18 23 rfl) rfl ?_
      refine am_iconst (v := (1 : Int32)) (am_dec tmL_law_18 24 rfl) (by decide) ?_
      refine am_iadd (am_dec tmL_law_18 25 rfl) ?_
      refine am_sld (j := i + 1) hE (am_dec tmL_law_18 26 rfl) (k_iz i 1) (by omega) hL ?_
      refine am_aload_n (am_dec tmL_law_18 27 rfl) rfl rfl ?_
      refine am_iload (am_dec tmL_law_18 28 rfl) rfl ?_
      refine am_iconst (v := (2 : Int32)) (am_dec tmL_law_18 29 rfl) (by decide) ?_
      refine am_iadd (am_dec tmL_law_18 30 rfl) ?_
      refine am_sld (j := i + 2) hE (am_dec tmL_law_18 31 rfl) (k_iz i 2) (by omega) hL ?_
      refine am_aload_n (am_dec tmL_law_18 32 rfl) rfl rfl ?_
      refine am_iload (am_dec tmL_law_18 33 rfl) rfl ?_
      refine am_iconst (v := (3 : Int32)) (am_dec tmL_law_18 34 rfl) (by decide) ?_
      refine am_iadd (am_dec tmL_law_18 35 rfl) ?_
      refine am_sld (j := i + 3) hE (am_dec tmL_law_18 36 rfl) (k_iz i 3) (by omega) hL ?_
      refine am_callV1 (As := [.int (am_x E (i + 1)), .int (am_x E (i + 2)), .int (am_x E (i + 3))]) (st := []) hE (am_dec tmL_law_18 37 rfl) ok_X12_pitch rfl lmL_258 in_X12_pitch se_X12_pitch sh_117 cf12 (c_X12_pitch hE b2) rfl (by decide) (Nat.le_of_ble_eq_true rfl) hc hs rfl ?_
      refine am_istore (lv' := [(0, .ref 0), (1, .ref 16), (2, .ref 117), (3, .ref 2637), (4, .int (Int32.ofNat i)), (5, .int (2 : Int32)), (6, .int u)]) (am_dec tmL_law_18 38 rfl) (by decide) rfl ?_
      refine am_aload_n (am_dec tmL_law_18 39 rfl) rfl rfl ?_
      refine am_callV1 (As := []) (st := []) hE (am_dec tmL_law_18 40 rfl) ok_X12_thrown rfl lmL_169 in_X12_thrown se_X12_thrown sh_117 cf12 (c_X12_thrown hE hth) rfl (by decide) (Nat.le_of_ble_eq_true rfl) hc hs rfl ?_
      refine am_iload (am_dec tmL_law_18 41 rfl) rfl ?_
      refine am_icmp_eq (tgt := 1922) (am_dec tmL_law_18 42 rfl) (by decide) (fun _ => ?_) (fun h => absurd rfl h)
      refine am_iload (am_dec tmL_law_18 45 rfl) rfl ?_
      refine am_if_ne (tgt := 1939) (am_dec tmL_law_18 46 rfl) (by decide) (fun _ => ?_) (fun h => absurd h (by decide))
      refine am_goto (tgt := 3717) (am_dec tmL_law_18 56 rfl) (by decide) ?_
      refine am_pick [0, 1, 2, 3, 4] rfl ?_
      exact k
    · cases b0
set_option maxRecDepth 100000 in
set_option maxHeartbeats 4000000 in
theorem lw_turned {E : am_E} (hE : am_EH E) {D : am_D} (q : k_Q D D) {mc ms cu su i : Nat} (hL : am_L E ≤ 3072) (hi : i + 6 ≤ am_L E) (hc : cu + 1 ≤ mc) (hs : su + 6 ≤ ms) : ∃ D1, k_Q D1 D1 ∧ ∀ (o : am_O) (G' : am_G) (D' : am_D), am_S E mL_law 12 mc ms o G' D' (cu + 1) (su + 6) 3717 [(0, .ref 0), (1, .ref 16), (2, .ref 117), (3, .ref 2637), (4, .int (Int32.ofNat i))] [] am_G0 D1 → am_S E mL_law 12 mc ms o G' D' cu su 1942 [(0, .ref 0), (1, .ref 16), (2, .ref 117), (3, .ref 2637), (4, .int (Int32.ofNat i))] [] am_G0 D := by
  rcases k_joinE (f1 := fun D => f_X11_turned (am_x E (i + 1)) (am_x E (i + 2)) (am_x E (i + 3)) (am_x E (i + 4)) (am_x E (i + 5)) D) (f2 := fun D => f_X12_turned (am_x E (i + 1)) (am_x E (i + 2)) (am_x E (i + 3)) (am_x E (i + 4)) (am_x E (i + 5)) D) (ex := ["java/util/NoSuchElementException", "java/lang/IllegalArgumentException"]) (fun v => v) (fun D E9 h => op_turned h (am_x E (i + 1)) (am_x E (i + 2)) (am_x E (i + 3)) (am_x E (i + 4)) (am_x E (i + 5))) q with ⟨D1, D2, v, a1, a2, a3, a4, a5⟩ | ⟨D1, D2, u, j, nm, b0, b1, b2, b3, b4⟩
  · refine ⟨D2, a4, fun o G' D' k => ?_⟩
    have hth : f_X12_thrown D2 = some (0 : Int32) := by rw [← a3]; rfl
    have hld : am_gL D2 2637 1 0 = some (D2.2 2637 0) := k_gl (k := 0) (by decide) (by decide)
    have hcu : ∀ _ : Unit, cu + 1 ≤ mc := fun _ => hc
    have hsu : ∀ _ : Unit, su + 6 ≤ ms := fun _ => hs
    refine am_aload_n (am_dec tmL_law_18 57 rfl) rfl rfl ?_
    refine am_aload_n (am_dec tmL_law_18 58 rfl) rfl rfl ?_
    refine am_iload (am_dec tmL_law_18 59 rfl) rfl ?_
    refine am_iconst (v := (1 : Int32)) (am_dec tmL_law_19 0 rfl) (by decide) ?_
    refine am_iadd (am_dec tmL_law_19 1 rfl) ?_
    refine am_sld (j := i + 1) hE (am_dec tmL_law_19 2 rfl) (k_iz i 1) (by omega) hL ?_
    refine am_aload_n (am_dec tmL_law_19 3 rfl) rfl rfl ?_
    refine am_iload (am_dec tmL_law_19 4 rfl) rfl ?_
    refine am_iconst (v := (2 : Int32)) (am_dec tmL_law_19 5 rfl) (by decide) ?_
    refine am_iadd (am_dec tmL_law_19 6 rfl) ?_
    refine am_sld (j := i + 2) hE (am_dec tmL_law_19 7 rfl) (k_iz i 2) (by omega) hL ?_
    refine am_aload_n (am_dec tmL_law_19 8 rfl) rfl rfl ?_
    refine am_iload (am_dec tmL_law_19 9 rfl) rfl ?_
    refine am_iconst (v := (3 : Int32)) (am_dec tmL_law_19 10 rfl) (by decide) ?_
    refine am_iadd (am_dec tmL_law_19 11 rfl) ?_
    refine am_sld (j := i + 3) hE (am_dec tmL_law_19 12 rfl) (k_iz i 3) (by omega) hL ?_
    refine am_aload_n (am_dec tmL_law_19 13 rfl) rfl rfl ?_
    refine am_iload (am_dec tmL_law_19 14 rfl) rfl ?_
    refine am_iconst (v := (4 : Int32)) (am_dec tmL_law_19 15 rfl) (by decide) ?_
    refine am_iadd (am_dec tmL_law_19 16 rfl) ?_
    refine am_sld (j := i + 4) hE (am_dec tmL_law_19 17 rfl) (k_iz i 4) (by omega) hL ?_
    refine am_aload_n (am_dec tmL_law_19 18 rfl) rfl rfl ?_
    refine am_iload (am_dec tmL_law_19 19 rfl) rfl ?_
    refine am_iconst (v := (5 : Int32)) (am_dec tmL_law_19 20 rfl) (by decide) ?_
    refine am_iadd (am_dec tmL_law_19 21 rfl) ?_
    refine am_sld (j := i + 5) hE (am_dec tmL_law_19 22 rfl) (k_iz i 5) (by omega) hL ?_
    refine am_aload_n (am_dec tmL_law_19 23 rfl) rfl rfl ?_
    refine am_callSH (As := [.ref 16, .int (am_x E (i + 1)), .int (am_x E (i + 2)), .int (am_x E (i + 3)), .int (am_x E (i + 4)), .int (am_x E (i + 5)), .ref 2637]) (st := []) (am_dec tmL_law_19 24 rfl) ok_L_turned (fun h => nomatch h) lmL_259 st_L_turned (cw_turned hE a1) rfl (by decide) (Nat.le_of_ble_eq_true rfl) hc hs rfl ?_
    refine am_istore (lv' := [(0, .ref 0), (1, .ref 16), (2, .ref 117), (3, .ref 2637), (4, .int (Int32.ofNat i)), (5, .int (0 : Int32))]) (am_dec tmL_law_19 25 rfl) (by decide) rfl ?_
    refine am_aload_n (am_dec tmL_law_19 26 rfl) rfl rfl ?_
    refine am_aload_n (am_dec tmL_law_19 27 rfl) rfl rfl ?_
    refine am_iload (am_dec tmL_law_19 28 rfl) rfl ?_
    refine am_iconst (v := (1 : Int32)) (am_dec tmL_law_19 29 rfl) (by decide) ?_
    refine am_iadd (am_dec tmL_law_19 30 rfl) ?_
    refine am_sld (j := i + 1) hE (am_dec tmL_law_19 31 rfl) (k_iz i 1) (by omega) hL ?_
    refine am_aload_n (am_dec tmL_law_19 32 rfl) rfl rfl ?_
    refine am_iload (am_dec tmL_law_19 33 rfl) rfl ?_
    refine am_iconst (v := (2 : Int32)) (am_dec tmL_law_19 34 rfl) (by decide) ?_
    refine am_iadd (am_dec tmL_law_19 35 rfl) ?_
    refine am_sld (j := i + 2) hE (am_dec tmL_law_19 36 rfl) (k_iz i 2) (by omega) hL ?_
    refine am_aload_n (am_dec tmL_law_19 37 rfl) rfl rfl ?_
    refine am_iload (am_dec tmL_law_19 38 rfl) rfl ?_
    refine am_iconst (v := (3 : Int32)) (am_dec tmL_law_19 39 rfl) (by decide) ?_
    refine am_iadd (am_dec tmL_law_19 40 rfl) ?_
    refine am_sld (j := i + 3) hE (am_dec tmL_law_19 41 rfl) (k_iz i 3) (by omega) hL ?_
    refine am_aload_n (am_dec tmL_law_19 42 rfl) rfl rfl ?_
    refine am_iload (am_dec tmL_law_19 43 rfl) rfl ?_
    refine am_iconst (v := (4 : Int32)) (am_dec tmL_law_19 44 rfl) (by decide) ?_
    refine am_iadd (am_dec tmL_law_19 45 rfl) ?_
    refine am_sld (j := i + 4) hE (am_dec tmL_law_19 46 rfl) (k_iz i 4) (by omega) hL ?_
    refine am_aload_n (am_dec tmL_law_19 47 rfl) rfl rfl ?_
    refine am_iload (am_dec tmL_law_19 48 rfl) rfl ?_
    refine am_iconst (v := (5 : Int32)) (am_dec tmL_law_19 49 rfl) (by decide) ?_
    refine am_iadd (am_dec tmL_law_19 50 rfl) ?_
    refine am_sld (j := i + 5) hE (am_dec tmL_law_19 51 rfl) (k_iz i 5) (by omega) hL ?_
    refine am_callV1 (As := [.int (am_x E (i + 1)), .int (am_x E (i + 2)), .int (am_x E (i + 3)), .int (am_x E (i + 4)), .int (am_x E (i + 5))]) (st := []) hE (am_dec tmL_law_19 52 rfl) ok_X12_turned rfl lmL_262 in_X12_turned se_X12_turned sh_117 cf12 (c_X12_turned hE a2) rfl (by decide) (Nat.le_of_ble_eq_true rfl) hc hs rfl ?_
    refine am_lstore (lv' := [(0, .ref 0), (1, .ref 16), (2, .ref 117), (3, .ref 2637), (4, .int (Int32.ofNat i)), (5, .int (0 : Int32)), (6, .long v)]) (am_dec tmL_law_19 53 rfl) (by decide) rfl ?_
    refine am_aload_n (am_dec tmL_law_19 54 rfl) rfl rfl ?_
    refine am_callV1 (As := []) (st := []) hE (am_dec tmL_law_19 55 rfl) ok_X12_thrown rfl lmL_169 in_X12_thrown se_X12_thrown sh_117 cf12 (c_X12_thrown hE hth) rfl (by decide) (Nat.le_of_ble_eq_true rfl) hc hs rfl ?_
    refine am_iload (am_dec tmL_law_19 56 rfl) rfl ?_
    refine am_icmp_eq (tgt := 2026) (am_dec tmL_law_19 57 rfl) (by decide) (fun _ => ?_) (fun h => absurd rfl h)
    refine am_iload (am_dec tmL_law_20 0 rfl) rfl ?_
    refine am_if_ne (tgt := 2042) (am_dec tmL_law_20 1 rfl) (by decide) (fun h => absurd rfl h) (fun _ => ?_)
    refine am_aload_n (am_dec tmL_law_20 2 rfl) rfl rfl ?_
    refine am_iconst (v := (0 : Int32)) (am_dec tmL_law_20 3 rfl) (by decide) ?_
    refine am_lald2 (n := 1) (i := 0) (v := v) hE (am_dec tmL_law_20 4 rfl) shq_2637 (hld.trans (congrArg some a5)) ?_
    refine am_lload (am_dec tmL_law_20 5 rfl) rfl ?_
    refine am_lcmp (am_dec tmL_law_20 6 rfl) ?_
    refine am_if_eq (tgt := 2042) (am_dec tmL_law_20 7 rfl) (by decide) (fun _ => ?_) (fun h => absurd (k_cmp _) h)
    refine am_goto (tgt := 3717) (am_dec tmL_law_20 10 rfl) (by decide) ?_
    refine am_pick [0, 1, 2, 3, 4] rfl ?_
    exact k
  · rcases j with _ | _ | j
    · cases b0
      refine ⟨D2, b4, fun o G' D' k => ?_⟩
      have hth : f_X12_thrown D2 = some (Int32.ofNat 1) := by rw [← b3]; rfl
      refine am_aload_n (am_dec tmL_law_18 57 rfl) rfl rfl ?_
      refine am_aload_n (am_dec tmL_law_18 58 rfl) rfl rfl ?_
      refine am_iload (am_dec tmL_law_18 59 rfl) rfl ?_
      refine am_iconst (v := (1 : Int32)) (am_dec tmL_law_19 0 rfl) (by decide) ?_
      refine am_iadd (am_dec tmL_law_19 1 rfl) ?_
      refine am_sld (j := i + 1) hE (am_dec tmL_law_19 2 rfl) (k_iz i 1) (by omega) hL ?_
      refine am_aload_n (am_dec tmL_law_19 3 rfl) rfl rfl ?_
      refine am_iload (am_dec tmL_law_19 4 rfl) rfl ?_
      refine am_iconst (v := (2 : Int32)) (am_dec tmL_law_19 5 rfl) (by decide) ?_
      refine am_iadd (am_dec tmL_law_19 6 rfl) ?_
      refine am_sld (j := i + 2) hE (am_dec tmL_law_19 7 rfl) (k_iz i 2) (by omega) hL ?_
      refine am_aload_n (am_dec tmL_law_19 8 rfl) rfl rfl ?_
      refine am_iload (am_dec tmL_law_19 9 rfl) rfl ?_
      refine am_iconst (v := (3 : Int32)) (am_dec tmL_law_19 10 rfl) (by decide) ?_
      refine am_iadd (am_dec tmL_law_19 11 rfl) ?_
      refine am_sld (j := i + 3) hE (am_dec tmL_law_19 12 rfl) (k_iz i 3) (by omega) hL ?_
      refine am_aload_n (am_dec tmL_law_19 13 rfl) rfl rfl ?_
      refine am_iload (am_dec tmL_law_19 14 rfl) rfl ?_
      refine am_iconst (v := (4 : Int32)) (am_dec tmL_law_19 15 rfl) (by decide) ?_
      refine am_iadd (am_dec tmL_law_19 16 rfl) ?_
      refine am_sld (j := i + 4) hE (am_dec tmL_law_19 17 rfl) (k_iz i 4) (by omega) hL ?_
      refine am_aload_n (am_dec tmL_law_19 18 rfl) rfl rfl ?_
      refine am_iload (am_dec tmL_law_19 19 rfl) rfl ?_
      refine am_iconst (v := (5 : Int32)) (am_dec tmL_law_19 20 rfl) (by decide) ?_
      refine am_iadd (am_dec tmL_law_19 21 rfl) ?_
      refine am_sld (j := i + 5) hE (am_dec tmL_law_19 22 rfl) (k_iz i 5) (by omega) hL ?_
      refine am_aload_n (am_dec tmL_law_19 23 rfl) rfl rfl ?_
      refine am_callSH (As := [.ref 16, .int (am_x E (i + 1)), .int (am_x E (i + 2)), .int (am_x E (i + 3)), .int (am_x E (i + 4)), .int (am_x E (i + 5)), .ref 2637]) (st := []) (am_dec tmL_law_19 24 rfl) ok_L_turned (fun h => nomatch h) lmL_259 st_L_turned (xw_turned_1 hE b1) rfl (by decide) (Nat.le_of_ble_eq_true rfl) hc hs rfl ?_
      refine am_istore (lv' := [(0, .ref 0), (1, .ref 16), (2, .ref 117), (3, .ref 2637), (4, .int (Int32.ofNat i)), (5, .int (1 : Int32))]) (am_dec tmL_law_19 25 rfl) (by decide) rfl ?_
      refine am_aload_n (am_dec tmL_law_19 26 rfl) rfl rfl ?_
      refine am_aload_n (am_dec tmL_law_19 27 rfl) rfl rfl ?_
      refine am_iload (am_dec tmL_law_19 28 rfl) rfl ?_
      refine am_iconst (v := (1 : Int32)) (am_dec tmL_law_19 29 rfl) (by decide) ?_
      refine am_iadd (am_dec tmL_law_19 30 rfl) ?_
      refine am_sld (j := i + 1) hE (am_dec tmL_law_19 31 rfl) (k_iz i 1) (by omega) hL ?_
      refine am_aload_n (am_dec tmL_law_19 32 rfl) rfl rfl ?_
      refine am_iload (am_dec tmL_law_19 33 rfl) rfl ?_
      refine am_iconst (v := (2 : Int32)) (am_dec tmL_law_19 34 rfl) (by decide) ?_
      refine am_iadd (am_dec tmL_law_19 35 rfl) ?_
      refine am_sld (j := i + 2) hE (am_dec tmL_law_19 36 rfl) (k_iz i 2) (by omega) hL ?_
      refine am_aload_n (am_dec tmL_law_19 37 rfl) rfl rfl ?_
      refine am_iload (am_dec tmL_law_19 38 rfl) rfl ?_
      refine am_iconst (v := (3 : Int32)) (am_dec tmL_law_19 39 rfl) (by decide) ?_
      refine am_iadd (am_dec tmL_law_19 40 rfl) ?_
      refine am_sld (j := i + 3) hE (am_dec tmL_law_19 41 rfl) (k_iz i 3) (by omega) hL ?_
      refine am_aload_n (am_dec tmL_law_19 42 rfl) rfl rfl ?_
      refine am_iload (am_dec tmL_law_19 43 rfl) rfl ?_
      refine am_iconst (v := (4 : Int32)) (am_dec tmL_law_19 44 rfl) (by decide) ?_
      refine am_iadd (am_dec tmL_law_19 45 rfl) ?_
      refine am_sld (j := i + 4) hE (am_dec tmL_law_19 46 rfl) (k_iz i 4) (by omega) hL ?_
      refine am_aload_n (am_dec tmL_law_19 47 rfl) rfl rfl ?_
      refine am_iload (am_dec tmL_law_19 48 rfl) rfl ?_
      refine am_iconst (v := (5 : Int32)) (am_dec tmL_law_19 49 rfl) (by decide) ?_
      refine am_iadd (am_dec tmL_law_19 50 rfl) ?_
      refine am_sld (j := i + 5) hE (am_dec tmL_law_19 51 rfl) (k_iz i 5) (by omega) hL ?_
      refine am_callV1 (As := [.int (am_x E (i + 1)), .int (am_x E (i + 2)), .int (am_x E (i + 3)), .int (am_x E (i + 4)), .int (am_x E (i + 5))]) (st := []) hE (am_dec tmL_law_19 52 rfl) ok_X12_turned rfl lmL_262 in_X12_turned se_X12_turned sh_117 cf12 (c_X12_turned hE b2) rfl (by decide) (Nat.le_of_ble_eq_true rfl) hc hs rfl ?_
      refine am_lstore (lv' := [(0, .ref 0), (1, .ref 16), (2, .ref 117), (3, .ref 2637), (4, .int (Int32.ofNat i)), (5, .int (1 : Int32)), (6, .long u)]) (am_dec tmL_law_19 53 rfl) (by decide) rfl ?_
      refine am_aload_n (am_dec tmL_law_19 54 rfl) rfl rfl ?_
      refine am_callV1 (As := []) (st := []) hE (am_dec tmL_law_19 55 rfl) ok_X12_thrown rfl lmL_169 in_X12_thrown se_X12_thrown sh_117 cf12 (c_X12_thrown hE hth) rfl (by decide) (Nat.le_of_ble_eq_true rfl) hc hs rfl ?_
      refine am_iload (am_dec tmL_law_19 56 rfl) rfl ?_
      refine am_icmp_eq (tgt := 2026) (am_dec tmL_law_19 57 rfl) (by decide) (fun _ => ?_) (fun h => absurd rfl h)
      refine am_iload (am_dec tmL_law_20 0 rfl) rfl ?_
      refine am_if_ne (tgt := 2042) (am_dec tmL_law_20 1 rfl) (by decide) (fun _ => ?_) (fun h => absurd h (by decide))
      refine am_goto (tgt := 3717) (am_dec tmL_law_20 10 rfl) (by decide) ?_
      refine am_pick [0, 1, 2, 3, 4] rfl ?_
      exact k
    · cases b0
      refine ⟨D2, b4, fun o G' D' k => ?_⟩
      have hth : f_X12_thrown D2 = some (Int32.ofNat 2) := by rw [← b3]; rfl
      refine am_aload_n (am_dec tmL_law_18 57 rfl) rfl rfl ?_
      refine am_aload_n (am_dec tmL_law_18 58 rfl) rfl rfl ?_
      refine am_iload (am_dec tmL_law_18 59 rfl) rfl ?_
      refine am_iconst (v := (1 : Int32)) (am_dec tmL_law_19 0 rfl) (by decide) ?_
      refine am_iadd (am_dec tmL_law_19 1 rfl) ?_
      refine am_sld (j := i + 1) hE (am_dec tmL_law_19 2 rfl) (k_iz i 1) (by omega) hL ?_
      refine am_aload_n (am_dec tmL_law_19 3 rfl) rfl rfl ?_
      refine am_iload (am_dec tmL_law_19 4 rfl) rfl ?_
      refine am_iconst (v := (2 : Int32)) (am_dec tmL_law_19 5 rfl) (by decide) ?_
      refine am_iadd (am_dec tmL_law_19 6 rfl) ?_
      refine am_sld (j := i + 2) hE (am_dec tmL_law_19 7 rfl) (k_iz i 2) (by omega) hL ?_
      refine am_aload_n (am_dec tmL_law_19 8 rfl) rfl rfl ?_
      refine am_iload (am_dec tmL_law_19 9 rfl) rfl ?_
      refine am_iconst (v := (3 : Int32)) (am_dec tmL_law_19 10 rfl) (by decide) ?_
      refine am_iadd (am_dec tmL_law_19 11 rfl) ?_
      refine am_sld (j := i + 3) hE (am_dec tmL_law_19 12 rfl) (k_iz i 3) (by omega) hL ?_
      refine am_aload_n (am_dec tmL_law_19 13 rfl) rfl rfl ?_
      refine am_iload (am_dec tmL_law_19 14 rfl) rfl ?_
      refine am_iconst (v := (4 : Int32)) (am_dec tmL_law_19 15 rfl) (by decide) ?_
      refine am_iadd (am_dec tmL_law_19 16 rfl) ?_
      refine am_sld (j := i + 4) hE (am_dec tmL_law_19 17 rfl) (k_iz i 4) (by omega) hL ?_
      refine am_aload_n (am_dec tmL_law_19 18 rfl) rfl rfl ?_
      refine am_iload (am_dec tmL_law_19 19 rfl) rfl ?_
      refine am_iconst (v := (5 : Int32)) (am_dec tmL_law_19 20 rfl) (by decide) ?_
      refine am_iadd (am_dec tmL_law_19 21 rfl) ?_
      refine am_sld (j := i + 5) hE (am_dec tmL_law_19 22 rfl) (k_iz i 5) (by omega) hL ?_
      refine am_aload_n (am_dec tmL_law_19 23 rfl) rfl rfl ?_
      refine am_callSH (As := [.ref 16, .int (am_x E (i + 1)), .int (am_x E (i + 2)), .int (am_x E (i + 3)), .int (am_x E (i + 4)), .int (am_x E (i + 5)), .ref 2637]) (st := []) (am_dec tmL_law_19 24 rfl) ok_L_turned (fun h => nomatch h) lmL_259 st_L_turned (xw_turned_2 hE b1) rfl (by decide) (Nat.le_of_ble_eq_true rfl) hc hs rfl ?_
      refine am_istore (lv' := [(0, .ref 0), (1, .ref 16), (2, .ref 117), (3, .ref 2637), (4, .int (Int32.ofNat i)), (5, .int (2 : Int32))]) (am_dec tmL_law_19 25 rfl) (by decide) rfl ?_
      refine am_aload_n (am_dec tmL_law_19 26 rfl) rfl rfl ?_
      refine am_aload_n (am_dec tmL_law_19 27 rfl) rfl rfl ?_
      refine am_iload (am_dec tmL_law_19 28 rfl) rfl ?_
      refine am_iconst (v := (1 : Int32)) (am_dec tmL_law_19 29 rfl) (by decide) ?_
      refine am_iadd (am_dec tmL_law_19 30 rfl) ?_
      refine am_sld (j := i + 1) hE (am_dec tmL_law_19 31 rfl) (k_iz i 1) (by omega) hL ?_
      refine am_aload_n (am_dec tmL_law_19 32 rfl) rfl rfl ?_
      refine am_iload (am_dec tmL_law_19 33 rfl) rfl ?_
      refine am_iconst (v := (2 : Int32)) (am_dec tmL_law_19 34 rfl) (by decide) ?_
      refine am_iadd (am_dec tmL_law_19 35 rfl) ?_
      refine am_sld (j := i + 2) hE (am_dec tmL_law_19 36 rfl) (k_iz i 2) (by omega) hL ?_
      refine am_aload_n (am_dec tmL_law_19 37 rfl) rfl rfl ?_
      refine am_iload (am_dec tmL_law_19 38 rfl) rfl ?_
      refine am_iconst (v := (3 : Int32)) (am_dec tmL_law_19 39 rfl) (by decide) ?_
      refine am_iadd (am_dec tmL_law_19 40 rfl) ?_
      refine am_sld (j := i + 3) hE (am_dec tmL_law_19 41 rfl) (k_iz i 3) (by omega) hL ?_
      refine am_aload_n (am_dec tmL_law_19 42 rfl) rfl rfl ?_
      refine am_iload (am_dec tmL_law_19 43 rfl) rfl ?_
      refine am_iconst (v := (4 : Int32)) (am_dec tmL_law_19 44 rfl) (by decide) ?_
      refine am_iadd (am_dec tmL_law_19 45 rfl) ?_
      refine am_sld (j := i + 4) hE (am_dec tmL_law_19 46 rfl) (k_iz i 4) (by omega) hL ?_
      refine am_aload_n (am_dec tmL_law_19 47 rfl) rfl rfl ?_
      refine am_iload (am_dec tmL_law_19 48 rfl) rfl ?_
      refine am_iconst (v := (5 : Int32)) (am_dec tmL_law_19 49 rfl) (by decide) ?_
      refine am_iadd (am_dec tmL_law_19 50 rfl) ?_
      refine am_sld (j := i + 5) hE (am_dec tmL_law_19 51 rfl) (k_iz i 5) (by omega) hL ?_
      refine am_callV1 (As := [.int (am_x E (i + 1)), .int (am_x E (i + 2)), .int (am_x E (i + 3)), .int (am_x E (i + 4)), .int (am_x E (i + 5))]) (st := []) hE (am_dec tmL_law_19 52 rfl) ok_X12_turned rfl lmL_262 in_X12_turned se_X12_turned sh_117 cf12 (c_X12_turned hE b2) rfl (by decide) (Nat.le_of_ble_eq_true rfl) hc hs rfl ?_
      refine am_lstore (lv' := [(0, .ref 0), (1, .ref 16), (2, .ref 117), (3, .ref 2637), (4, .int (Int32.ofNat i)), (5, .int (2 : Int32)), (6, .long u)]) (am_dec tmL_law_19 53 rfl) (by decide) rfl ?_
      refine am_aload_n (am_dec tmL_law_19 54 rfl) rfl rfl ?_
      refine am_callV1 (As := []) (st := []) hE (am_dec tmL_law_19 55 rfl) ok_X12_thrown rfl lmL_169 in_X12_thrown se_X12_thrown sh_117 cf12 (c_X12_thrown hE hth) rfl (by decide) (Nat.le_of_ble_eq_true rfl) hc hs rfl ?_
      refine am_iload (am_dec tmL_law_19 56 rfl) rfl ?_
      refine am_icmp_eq (tgt := 2026) (am_dec tmL_law_19 57 rfl) (by decide) (fun _ => ?_) (fun h => absurd rfl h)
      refine am_iload (am_dec tmL_law_20 0 rfl) rfl ?_
      refine am_if_ne (tgt := 2042) (am_dec tmL_law_20 1 rfl) (by decide) (fun _ => ?_) (fun h => absurd h (by decide))
      refine am_goto (tgt := 3717) (am_dec tmL_law_20 10 rfl) (by decide) ?_
      refine am_pick [0, 1, 2, 3, 4] rfl ?_
      exact k
    · cases b0
set_option maxRecDepth 100000 in
set_option maxHeartbeats 4000000 in
theorem lw_sing {E : am_E} (hE : am_EH E) {D : am_D} (q : k_Q D D) {mc ms cu su i : Nat} (hL : am_L E ≤ 3072) (hi : i + 6 ≤ am_L E) (hc : cu + 1 ≤ mc) (hs : su + 6 ≤ ms) : ∃ D1, k_Q D1 D1 ∧ ∀ (o : am_O) (G' : am_G) (D' : am_D), am_S E mL_law 12 mc ms o G' D' (cu + 1) (su + 6) 3717 [(0, .ref 0), (1, .ref 16), (2, .ref 117), (3, .ref 2637), (4, .int (Int32.ofNat i))] [] am_G0 D1 → am_S E mL_law 12 mc ms o G' D' cu su 2045 [(0, .ref 0), (1, .ref 16), (2, .ref 117), (3, .ref 2637), (4, .int (Int32.ofNat i))] [] am_G0 D := by
  rcases k_joinE (f1 := fun D => f_X11_sing (am_x E (i + 1)) (am_x E (i + 2)) (am_x E (i + 3)) (am_x E (i + 4)) D) (f2 := fun D => f_X12_sing (am_x E (i + 1)) (am_x E (i + 2)) (am_x E (i + 3)) (am_x E (i + 4)) D) (ex := ["java/util/NoSuchElementException", "java/lang/IndexOutOfBoundsException", "java/lang/IllegalArgumentException", "java/lang/IllegalStateException"]) (fun v => v.toInt64) (fun D E9 h => op_sing h (am_x E (i + 1)) (am_x E (i + 2)) (am_x E (i + 3)) (am_x E (i + 4))) q with ⟨D1, D2, v, a1, a2, a3, a4, a5⟩ | ⟨D1, D2, u, j, nm, b0, b1, b2, b3, b4⟩
  · refine ⟨D2, a4, fun o G' D' k => ?_⟩
    have hth : f_X12_thrown D2 = some (0 : Int32) := by rw [← a3]; rfl
    have hld : am_gL D2 2637 1 0 = some (D2.2 2637 0) := k_gl (k := 0) (by decide) (by decide)
    have hcu : ∀ _ : Unit, cu + 1 ≤ mc := fun _ => hc
    have hsu : ∀ _ : Unit, su + 6 ≤ ms := fun _ => hs
    refine am_aload_n (am_dec tmL_law_20 11 rfl) rfl rfl ?_
    refine am_aload_n (am_dec tmL_law_20 12 rfl) rfl rfl ?_
    refine am_iload (am_dec tmL_law_20 13 rfl) rfl ?_
    refine am_iconst (v := (1 : Int32)) (am_dec tmL_law_20 14 rfl) (by decide) ?_
    refine am_iadd (am_dec tmL_law_20 15 rfl) ?_
    refine am_sld (j := i + 1) hE (am_dec tmL_law_20 16 rfl) (k_iz i 1) (by omega) hL ?_
    refine am_aload_n (am_dec tmL_law_20 17 rfl) rfl rfl ?_
    refine am_iload (am_dec tmL_law_20 18 rfl) rfl ?_
    refine am_iconst (v := (2 : Int32)) (am_dec tmL_law_20 19 rfl) (by decide) ?_
    refine am_iadd (am_dec tmL_law_20 20 rfl) ?_
    refine am_sld (j := i + 2) hE (am_dec tmL_law_20 21 rfl) (k_iz i 2) (by omega) hL ?_
    refine am_aload_n (am_dec tmL_law_20 22 rfl) rfl rfl ?_
    refine am_iload (am_dec tmL_law_20 23 rfl) rfl ?_
    refine am_iconst (v := (3 : Int32)) (am_dec tmL_law_20 24 rfl) (by decide) ?_
    refine am_iadd (am_dec tmL_law_20 25 rfl) ?_
    refine am_sld (j := i + 3) hE (am_dec tmL_law_20 26 rfl) (k_iz i 3) (by omega) hL ?_
    refine am_aload_n (am_dec tmL_law_20 27 rfl) rfl rfl ?_
    refine am_iload (am_dec tmL_law_20 28 rfl) rfl ?_
    refine am_iconst (v := (4 : Int32)) (am_dec tmL_law_20 29 rfl) (by decide) ?_
    refine am_iadd (am_dec tmL_law_20 30 rfl) ?_
    refine am_sld (j := i + 4) hE (am_dec tmL_law_20 31 rfl) (k_iz i 4) (by omega) hL ?_
    refine am_aload_n (am_dec tmL_law_20 32 rfl) rfl rfl ?_
    refine am_callSH (As := [.ref 16, .int (am_x E (i + 1)), .int (am_x E (i + 2)), .int (am_x E (i + 3)), .int (am_x E (i + 4)), .ref 2637]) (st := []) (am_dec tmL_law_20 33 rfl) ok_L_sing (fun h => nomatch h) lmL_263 st_L_sing (cw_sing hE a1) rfl (by decide) (Nat.le_of_ble_eq_true rfl) hc hs rfl ?_
    refine am_istore (lv' := [(0, .ref 0), (1, .ref 16), (2, .ref 117), (3, .ref 2637), (4, .int (Int32.ofNat i)), (5, .int (0 : Int32))]) (am_dec tmL_law_20 34 rfl) (by decide) rfl ?_
    refine am_aload_n (am_dec tmL_law_20 35 rfl) rfl rfl ?_
    refine am_aload_n (am_dec tmL_law_20 36 rfl) rfl rfl ?_
    refine am_iload (am_dec tmL_law_20 37 rfl) rfl ?_
    refine am_iconst (v := (1 : Int32)) (am_dec tmL_law_20 38 rfl) (by decide) ?_
    refine am_iadd (am_dec tmL_law_20 39 rfl) ?_
    refine am_sld (j := i + 1) hE (am_dec tmL_law_20 40 rfl) (k_iz i 1) (by omega) hL ?_
    refine am_aload_n (am_dec tmL_law_20 41 rfl) rfl rfl ?_
    refine am_iload (am_dec tmL_law_20 42 rfl) rfl ?_
    refine am_iconst (v := (2 : Int32)) (am_dec tmL_law_20 43 rfl) (by decide) ?_
    refine am_iadd (am_dec tmL_law_20 44 rfl) ?_
    refine am_sld (j := i + 2) hE (am_dec tmL_law_20 45 rfl) (k_iz i 2) (by omega) hL ?_
    refine am_aload_n (am_dec tmL_law_20 46 rfl) rfl rfl ?_
    refine am_iload (am_dec tmL_law_20 47 rfl) rfl ?_
    refine am_iconst (v := (3 : Int32)) (am_dec tmL_law_20 48 rfl) (by decide) ?_
    refine am_iadd (am_dec tmL_law_20 49 rfl) ?_
    refine am_sld (j := i + 3) hE (am_dec tmL_law_20 50 rfl) (k_iz i 3) (by omega) hL ?_
    refine am_aload_n (am_dec tmL_law_20 51 rfl) rfl rfl ?_
    refine am_iload (am_dec tmL_law_20 52 rfl) rfl ?_
    refine am_iconst (v := (4 : Int32)) (am_dec tmL_law_20 53 rfl) (by decide) ?_
    refine am_iadd (am_dec tmL_law_20 54 rfl) ?_
    refine am_sld (j := i + 4) hE (am_dec tmL_law_20 55 rfl) (k_iz i 4) (by omega) hL ?_
    refine am_callV1 (As := [.int (am_x E (i + 1)), .int (am_x E (i + 2)), .int (am_x E (i + 3)), .int (am_x E (i + 4))]) (st := []) hE (am_dec tmL_law_20 56 rfl) ok_X12_sing rfl lmL_265 in_X12_sing se_X12_sing sh_117 cf12 (c_X12_sing hE a2) rfl (by decide) (Nat.le_of_ble_eq_true rfl) hc hs rfl ?_
    refine am_istore (lv' := [(0, .ref 0), (1, .ref 16), (2, .ref 117), (3, .ref 2637), (4, .int (Int32.ofNat i)), (5, .int (0 : Int32)), (6, .int v)]) (am_dec tmL_law_20 57 rfl) (by decide) rfl ?_
    refine am_aload_n (am_dec tmL_law_20 58 rfl) rfl rfl ?_
    refine am_callV1 (As := []) (st := []) hE (am_dec tmL_law_20 59 rfl) ok_X12_thrown rfl lmL_169 in_X12_thrown se_X12_thrown sh_117 cf12 (c_X12_thrown hE hth) rfl (by decide) (Nat.le_of_ble_eq_true rfl) hc hs rfl ?_
    refine am_iload (am_dec tmL_law_21 0 rfl) rfl ?_
    refine am_icmp_eq (tgt := 2117) (am_dec tmL_law_21 1 rfl) (by decide) (fun _ => ?_) (fun h => absurd rfl h)
    refine am_iload (am_dec tmL_law_21 4 rfl) rfl ?_
    refine am_if_ne (tgt := 2134) (am_dec tmL_law_21 5 rfl) (by decide) (fun h => absurd rfl h) (fun _ => ?_)
    refine am_aload_n (am_dec tmL_law_21 6 rfl) rfl rfl ?_
    refine am_iconst (v := (0 : Int32)) (am_dec tmL_law_21 7 rfl) (by decide) ?_
    refine am_lald2 (n := 1) (i := 0) (v := v.toInt64) hE (am_dec tmL_law_21 8 rfl) shq_2637 (hld.trans (congrArg some a5)) ?_
    refine am_iload (am_dec tmL_law_21 9 rfl) rfl ?_
    refine am_i2l (am_dec tmL_law_21 10 rfl) ?_
    refine am_lcmp (am_dec tmL_law_21 11 rfl) ?_
    refine am_if_eq (tgt := 2134) (am_dec tmL_law_21 12 rfl) (by decide) (fun _ => ?_) (fun h => absurd (k_cmp _) h)
    refine am_goto (tgt := 3717) (am_dec tmL_law_21 15 rfl) (by decide) ?_
    refine am_pick [0, 1, 2, 3, 4] rfl ?_
    exact k
  · rcases j with _ | _ | _ | _ | j
    · cases b0
      refine ⟨D2, b4, fun o G' D' k => ?_⟩
      have hth : f_X12_thrown D2 = some (Int32.ofNat 1) := by rw [← b3]; rfl
      refine am_aload_n (am_dec tmL_law_20 11 rfl) rfl rfl ?_
      refine am_aload_n (am_dec tmL_law_20 12 rfl) rfl rfl ?_
      refine am_iload (am_dec tmL_law_20 13 rfl) rfl ?_
      refine am_iconst (v := (1 : Int32)) (am_dec tmL_law_20 14 rfl) (by decide) ?_
      refine am_iadd (am_dec tmL_law_20 15 rfl) ?_
      refine am_sld (j := i + 1) hE (am_dec tmL_law_20 16 rfl) (k_iz i 1) (by omega) hL ?_
      refine am_aload_n (am_dec tmL_law_20 17 rfl) rfl rfl ?_
      refine am_iload (am_dec tmL_law_20 18 rfl) rfl ?_
      refine am_iconst (v := (2 : Int32)) (am_dec tmL_law_20 19 rfl) (by decide) ?_
      refine am_iadd (am_dec tmL_law_20 20 rfl) ?_
      refine am_sld (j := i + 2) hE (am_dec tmL_law_20 21 rfl) (k_iz i 2) (by omega) hL ?_
      refine am_aload_n (am_dec tmL_law_20 22 rfl) rfl rfl ?_
      refine am_iload (am_dec tmL_law_20 23 rfl) rfl ?_
      refine am_iconst (v := (3 : Int32)) (am_dec tmL_law_20 24 rfl) (by decide) ?_
      refine am_iadd (am_dec tmL_law_20 25 rfl) ?_
      refine am_sld (j := i + 3) hE (am_dec tmL_law_20 26 rfl) (k_iz i 3) (by omega) hL ?_
      refine am_aload_n (am_dec tmL_law_20 27 rfl) rfl rfl ?_
      refine am_iload (am_dec tmL_law_20 28 rfl) rfl ?_
      refine am_iconst (v := (4 : Int32)) (am_dec tmL_law_20 29 rfl) (by decide) ?_
      refine am_iadd (am_dec tmL_law_20 30 rfl) ?_
      refine am_sld (j := i + 4) hE (am_dec tmL_law_20 31 rfl) (k_iz i 4) (by omega) hL ?_
      refine am_aload_n (am_dec tmL_law_20 32 rfl) rfl rfl ?_
      refine am_callSH (As := [.ref 16, .int (am_x E (i + 1)), .int (am_x E (i + 2)), .int (am_x E (i + 3)), .int (am_x E (i + 4)), .ref 2637]) (st := []) (am_dec tmL_law_20 33 rfl) ok_L_sing (fun h => nomatch h) lmL_263 st_L_sing (xw_sing_1 hE b1) rfl (by decide) (Nat.le_of_ble_eq_true rfl) hc hs rfl ?_
      refine am_istore (lv' := [(0, .ref 0), (1, .ref 16), (2, .ref 117), (3, .ref 2637), (4, .int (Int32.ofNat i)), (5, .int (1 : Int32))]) (am_dec tmL_law_20 34 rfl) (by decide) rfl ?_
      refine am_aload_n (am_dec tmL_law_20 35 rfl) rfl rfl ?_
      refine am_aload_n (am_dec tmL_law_20 36 rfl) rfl rfl ?_
      refine am_iload (am_dec tmL_law_20 37 rfl) rfl ?_
      refine am_iconst (v := (1 : Int32)) (am_dec tmL_law_20 38 rfl) (by decide) ?_
      refine am_iadd (am_dec tmL_law_20 39 rfl) ?_
      refine am_sld (j := i + 1) hE (am_dec tmL_law_20 40 rfl) (k_iz i 1) (by omega) hL ?_
      refine am_aload_n (am_dec tmL_law_20 41 rfl) rfl rfl ?_
      refine am_iload (am_dec tmL_law_20 42 rfl) rfl ?_
      refine am_iconst (v := (2 : Int32)) (am_dec tmL_law_20 43 rfl) (by decide) ?_
      refine am_iadd (am_dec tmL_law_20 44 rfl) ?_
      refine am_sld (j := i + 2) hE (am_dec tmL_law_20 45 rfl) (k_iz i 2) (by omega) hL ?_
      refine am_aload_n (am_dec tmL_law_20 46 rfl) rfl rfl ?_
      refine am_iload (am_dec tmL_law_20 47 rfl) rfl ?_
      refine am_iconst (v := (3 : Int32)) (am_dec tmL_law_20 48 rfl) (by decide) ?_
      refine am_iadd (am_dec tmL_law_20 49 rfl) ?_
      refine am_sld (j := i + 3) hE (am_dec tmL_law_20 50 rfl) (k_iz i 3) (by omega) hL ?_
      refine am_aload_n (am_dec tmL_law_20 51 rfl) rfl rfl ?_
      refine am_iload (am_dec tmL_law_20 52 rfl) rfl ?_
      refine am_iconst (v := (4 : Int32)) (am_dec tmL_law_20 53 rfl) (by decide) ?_
      refine am_iadd (am_dec tmL_law_20 54 rfl) ?_
      refine am_sld (j := i + 4) hE (am_dec tmL_law_20 55 rfl) (k_iz i 4) (by omega) hL ?_
      refine am_callV1 (As := [.int (am_x E (i + 1)), .int (am_x E (i + 2)), .int (am_x E (i + 3)), .int (am_x E (i + 4))]) (st := []) hE (am_dec tmL_law_20 56 rfl) ok_X12_sing rfl lmL_265 in_X12_sing se_X12_sing sh_117 cf12 (c_X12_sing hE b2) rfl (by decide) (Nat.le_of_ble_eq_true rfl) hc hs rfl ?_
      refine am_istore (lv' := [(0, .ref 0), (1, .ref 16), (2, .ref 117), (3, .ref 2637), (4, .int (Int32.ofNat i)), (5, .int (1 : Int32)), (6, .int u)]) (am_dec tmL_law_20 57 rfl) (by decide) rfl ?_
      refine am_aload_n (am_dec tmL_law_20 58 rfl) rfl rfl ?_
      refine am_callV1 (As := []) (st := []) hE (am_dec tmL_law_20 59 rfl) ok_X12_thrown rfl lmL_169 in_X12_thrown se_X12_thrown sh_117 cf12 (c_X12_thrown hE hth) rfl (by decide) (Nat.le_of_ble_eq_true rfl) hc hs rfl ?_
      refine am_iload (am_dec tmL_law_21 0 rfl) rfl ?_
      refine am_icmp_eq (tgt := 2117) (am_dec tmL_law_21 1 rfl) (by decide) (fun _ => ?_) (fun h => absurd rfl h)
      refine am_iload (am_dec tmL_law_21 4 rfl) rfl ?_
      refine am_if_ne (tgt := 2134) (am_dec tmL_law_21 5 rfl) (by decide) (fun _ => ?_) (fun h => absurd h (by decide))
      refine am_goto (tgt := 3717) (am_dec tmL_law_21 15 rfl) (by decide) ?_
      refine am_pick [0, 1, 2, 3, 4] rfl ?_
      exact k
    · cases b0
      refine ⟨D2, b4, fun o G' D' k => ?_⟩
      have hth : f_X12_thrown D2 = some (Int32.ofNat 2) := by rw [← b3]; rfl
      refine am_aload_n (am_dec tmL_law_20 11 rfl) rfl rfl ?_
      refine am_aload_n (am_dec tmL_law_20 12 rfl) rfl rfl ?_
      refine am_iload (am_dec tmL_law_20 13 rfl) rfl ?_
      refine am_iconst (v := (1 : Int32)) (am_dec tmL_law_20 14 rfl) (by decide) ?_
      refine am_iadd (am_dec tmL_law_20 15 rfl) ?_
      refine am_sld (j := i + 1) hE (am_dec tmL_law_20 16 rfl) (k_iz i 1) (by omega) hL ?_
      refine am_aload_n (am_dec tmL_law_20 17 rfl) rfl rfl ?_
      refine am_iload (am_dec tmL_law_20 18 rfl) rfl ?_
      refine am_iconst (v := (2 : Int32)) (am_dec tmL_law_20 19 rfl) (by decide) ?_
      refine am_iadd (am_dec tmL_law_20 20 rfl) ?_
      refine am_sld (j := i + 2) hE (am_dec tmL_law_20 21 rfl) (k_iz i 2) (by omega) hL ?_
      refine am_aload_n (am_dec tmL_law_20 22 rfl) rfl rfl ?_
      refine am_iload (am_dec tmL_law_20 23 rfl) rfl ?_
      refine am_iconst (v := (3 : Int32)) (am_dec tmL_law_20 24 rfl) (by decide) ?_
      refine am_iadd (am_dec tmL_law_20 25 rfl) ?_
      refine am_sld (j := i + 3) hE (am_dec tmL_law_20 26 rfl) (k_iz i 3) (by omega) hL ?_
      refine am_aload_n (am_dec tmL_law_20 27 rfl) rfl rfl ?_
      refine am_iload (am_dec tmL_law_20 28 rfl) rfl ?_
      refine am_iconst (v := (4 : Int32)) (am_dec tmL_law_20 29 rfl) (by decide) ?_
      refine am_iadd (am_dec tmL_law_20 30 rfl) ?_
      refine am_sld (j := i + 4) hE (am_dec tmL_law_20 31 rfl) (k_iz i 4) (by omega) hL ?_
      refine am_aload_n (am_dec tmL_law_20 32 rfl) rfl rfl ?_
      refine am_callSH (As := [.ref 16, .int (am_x E (i + 1)), .int (am_x E (i + 2)), .int (am_x E (i + 3)), .int (am_x E (i + 4)), .ref 2637]) (st := []) (am_dec tmL_law_20 33 rfl) ok_L_sing (fun h => nomatch h) lmL_263 st_L_sing (xw_sing_2 hE b1) rfl (by decide) (Nat.le_of_ble_eq_true rfl) hc hs rfl ?_
      refine am_istore (lv' := [(0, .ref 0), (1, .ref 16), (2, .ref 117), (3, .ref 2637), (4, .int (Int32.ofNat i)), (5, .int (2 : Int32))]) (am_dec tmL_law_20 34 rfl) (by decide) rfl ?_
      refine am_aload_n (am_dec tmL_law_20 35 rfl) rfl rfl ?_
      refine am_aload_n (am_dec tmL_law_20 36 rfl) rfl rfl ?_
      refine am_iload (am_dec tmL_law_20 37 rfl) rfl ?_
      refine am_iconst (v := (1 : Int32)) (am_dec tmL_law_20 38 rfl) (by decide) ?_
      refine am_iadd (am_dec tmL_law_20 39 rfl) ?_
      refine am_sld (j := i + 1) hE (am_dec tmL_law_20 40 rfl) (k_iz i 1) (by omega) hL ?_
      refine am_aload_n (am_dec tmL_law_20 41 rfl) rfl rfl ?_
      refine am_iload (am_dec tmL_law_20 42 rfl) rfl ?_
      refine am_iconst (v := (2 : Int32)) (am_dec tmL_law_20 43 rfl) (by decide) ?_
      refine am_iadd (am_dec tmL_law_20 44 rfl) ?_
      refine am_sld (j := i + 2) hE (am_dec tmL_law_20 45 rfl) (k_iz i 2) (by omega) hL ?_
      refine am_aload_n (am_dec tmL_law_20 46 rfl) rfl rfl ?_
      refine am_iload (am_dec tmL_law_20 47 rfl) rfl ?_
      refine am_iconst (v := (3 : Int32)) (am_dec tmL_law_20 48 rfl) (by decide) ?_
      refine am_iadd (am_dec tmL_law_20 49 rfl) ?_
      refine am_sld (j := i + 3) hE (am_dec tmL_law_20 50 rfl) (k_iz i 3) (by omega) hL ?_
      refine am_aload_n (am_dec tmL_law_20 51 rfl) rfl rfl ?_
      refine am_iload (am_dec tmL_law_20 52 rfl) rfl ?_
      refine am_iconst (v := (4 : Int32)) (am_dec tmL_law_20 53 rfl) (by decide) ?_
      refine am_iadd (am_dec tmL_law_20 54 rfl) ?_
      refine am_sld (j := i + 4) hE (am_dec tmL_law_20 55 rfl) (k_iz i 4) (by omega) hL ?_
      refine am_callV1 (As := [.int (am_x E (i + 1)), .int (am_x E (i + 2)), .int (am_x E (i + 3)), .int (am_x E (i + 4))]) (st := []) hE (am_dec tmL_law_20 56 rfl) ok_X12_sing rfl lmL_265 in_X12_sing se_X12_sing sh_117 cf12 (c_X12_sing hE b2) rfl (by decide) (Nat.le_of_ble_eq_true rfl) hc hs rfl ?_
      refine am_istore (lv' := [(0, .ref 0), (1, .ref 16), (2, .ref 117), (3, .ref 2637), (4, .int (Int32.ofNat i)), (5, .int (2 : Int32)), (6, .int u)]) (am_dec tmL_law_20 57 rfl) (by decide) rfl ?_
      refine am_aload_n (am_dec tmL_law_20 58 rfl) rfl rfl ?_
      refine am_callV1 (As := []) (st := []) hE (am_dec tmL_law_20 59 rfl) ok_X12_thrown rfl lmL_169 in_X12_thrown se_X12_thrown sh_117 cf12 (c_X12_thrown hE hth) rfl (by decide) (Nat.le_of_ble_eq_true rfl) hc hs rfl ?_
      refine am_iload (am_dec tmL_law_21 0 rfl) rfl ?_
      refine am_icmp_eq (tgt := 2117) (am_dec tmL_law_21 1 rfl) (by decide) (fun _ => ?_) (fun h => absurd rfl h)
      refine am_iload (am_dec tmL_law_21 4 rfl) rfl ?_
      refine am_if_ne (tgt := 2134) (am_dec tmL_law_21 5 rfl) (by decide) (fun _ => ?_) (fun h => absurd h (by decide))
      refine am_goto (tgt := 3717) (am_dec tmL_law_21 15 rfl) (by decide) ?_
      refine am_pick [0, 1, 2, 3, 4] rfl ?_
      exact k
    · cases b0
      refine ⟨D2, b4, fun o G' D' k => ?_⟩
      have hth : f_X12_thrown D2 = some (Int32.ofNat 3) := by rw [← b3]; rfl
      refine am_aload_n (am_dec tmL_law_20 11 rfl) rfl rfl ?_
      refine am_aload_n (am_dec tmL_law_20 12 rfl) rfl rfl ?_
      refine am_iload (am_dec tmL_law_20 13 rfl) rfl ?_
      refine am_iconst (v := (1 : Int32)) (am_dec tmL_law_20 14 rfl) (by decide) ?_
      refine am_iadd (am_dec tmL_law_20 15 rfl) ?_
      refine am_sld (j := i + 1) hE (am_dec tmL_law_20 16 rfl) (k_iz i 1) (by omega) hL ?_
      refine am_aload_n (am_dec tmL_law_20 17 rfl) rfl rfl ?_
      refine am_iload (am_dec tmL_law_20 18 rfl) rfl ?_
      refine am_iconst (v := (2 : Int32)) (am_dec tmL_law_20 19 rfl) (by decide) ?_
      refine am_iadd (am_dec tmL_law_20 20 rfl) ?_
      refine am_sld (j := i + 2) hE (am_dec tmL_law_20 21 rfl) (k_iz i 2) (by omega) hL ?_
      refine am_aload_n (am_dec tmL_law_20 22 rfl) rfl rfl ?_
      refine am_iload (am_dec tmL_law_20 23 rfl) rfl ?_
      refine am_iconst (v := (3 : Int32)) (am_dec tmL_law_20 24 rfl) (by decide) ?_
      refine am_iadd (am_dec tmL_law_20 25 rfl) ?_
      refine am_sld (j := i + 3) hE (am_dec tmL_law_20 26 rfl) (k_iz i 3) (by omega) hL ?_
      refine am_aload_n (am_dec tmL_law_20 27 rfl) rfl rfl ?_
      refine am_iload (am_dec tmL_law_20 28 rfl) rfl ?_
      refine am_iconst (v := (4 : Int32)) (am_dec tmL_law_20 29 rfl) (by decide) ?_
      refine am_iadd (am_dec tmL_law_20 30 rfl) ?_
      refine am_sld (j := i + 4) hE (am_dec tmL_law_20 31 rfl) (k_iz i 4) (by omega) hL ?_
      refine am_aload_n (am_dec tmL_law_20 32 rfl) rfl rfl ?_
      refine am_callSH (As := [.ref 16, .int (am_x E (i + 1)), .int (am_x E (i + 2)), .int (am_x E (i + 3)), .int (am_x E (i + 4)), .ref 2637]) (st := []) (am_dec tmL_law_20 33 rfl) ok_L_sing (fun h => nomatch h) lmL_263 st_L_sing (xw_sing_3 hE b1) rfl (by decide) (Nat.le_of_ble_eq_true rfl) hc hs rfl ?_
      refine am_istore (lv' := [(0, .ref 0), (1, .ref 16), (2, .ref 117), (3, .ref 2637), (4, .int (Int32.ofNat i)), (5, .int (3 : Int32))]) (am_dec tmL_law_20 34 rfl) (by decide) rfl ?_
      refine am_aload_n (am_dec tmL_law_20 35 rfl) rfl rfl ?_
      refine am_aload_n (am_dec tmL_law_20 36 rfl) rfl rfl ?_
      refine am_iload (am_dec tmL_law_20 37 rfl) rfl ?_
      refine am_iconst (v := (1 : Int32)) (am_dec tmL_law_20 38 rfl) (by decide) ?_
      refine am_iadd (am_dec tmL_law_20 39 rfl) ?_
      refine am_sld (j := i + 1) hE (am_dec tmL_law_20 40 rfl) (k_iz i 1) (by omega) hL ?_
      refine am_aload_n (am_dec tmL_law_20 41 rfl) rfl rfl ?_
      refine am_iload (am_dec tmL_law_20 42 rfl) rfl ?_
      refine am_iconst (v := (2 : Int32)) (am_dec tmL_law_20 43 rfl) (by decide) ?_
      refine am_iadd (am_dec tmL_law_20 44 rfl) ?_
      refine am_sld (j := i + 2) hE (am_dec tmL_law_20 45 rfl) (k_iz i 2) (by omega) hL ?_
      refine am_aload_n (am_dec tmL_law_20 46 rfl) rfl rfl ?_
      refine am_iload (am_dec tmL_law_20 47 rfl) rfl ?_
      refine am_iconst (v := (3 : Int32)) (am_dec tmL_law_20 48 rfl) (by decide) ?_
      refine am_iadd (am_dec tmL_law_20 49 rfl) ?_
      refine am_sld (j := i + 3) hE (am_dec tmL_law_20 50 rfl) (k_iz i 3) (by omega) hL ?_
      refine am_aload_n (am_dec tmL_law_20 51 rfl) rfl rfl ?_
      refine am_iload (am_dec tmL_law_20 52 rfl) rfl ?_
      refine am_iconst (v := (4 : Int32)) (am_dec tmL_law_20 53 rfl) (by decide) ?_
      refine am_iadd (am_dec tmL_law_20 54 rfl) ?_
      refine am_sld (j := i + 4) hE (am_dec tmL_law_20 55 rfl) (k_iz i 4) (by omega) hL ?_
      refine am_callV1 (As := [.int (am_x E (i + 1)), .int (am_x E (i + 2)), .int (am_x E (i + 3)), .int (am_x E (i + 4))]) (st := []) hE (am_dec tmL_law_20 56 rfl) ok_X12_sing rfl lmL_265 in_X12_sing se_X12_sing sh_117 cf12 (c_X12_sing hE b2) rfl (by decide) (Nat.le_of_ble_eq_true rfl) hc hs rfl ?_
      refine am_istore (lv' := [(0, .ref 0), (1, .ref 16), (2, .ref 117), (3, .ref 2637), (4, .int (Int32.ofNat i)), (5, .int (3 : Int32)), (6, .int u)]) (am_dec tmL_law_20 57 rfl) (by decide) rfl ?_
      refine am_aload_n (am_dec tmL_law_20 58 rfl) rfl rfl ?_
      refine am_callV1 (As := []) (st := []) hE (am_dec tmL_law_20 59 rfl) ok_X12_thrown rfl lmL_169 in_X12_thrown se_X12_thrown sh_117 cf12 (c_X12_thrown hE hth) rfl (by decide) (Nat.le_of_ble_eq_true rfl) hc hs rfl ?_
      refine am_iload (am_dec tmL_law_21 0 rfl) rfl ?_
      refine am_icmp_eq (tgt := 2117) (am_dec tmL_law_21 1 rfl) (by decide) (fun _ => ?_) (fun h => absurd rfl h)
      refine am_iload (am_dec tmL_law_21 4 rfl) rfl ?_
      refine am_if_ne (tgt := 2134) (am_dec tmL_law_21 5 rfl) (by decide) (fun _ => ?_) (fun h => absurd h (by decide))
      refine am_goto (tgt := 3717) (am_dec tmL_law_21 15 rfl) (by decide) ?_
      refine am_pick [0, 1, 2, 3, 4] rfl ?_
      exact k
    · cases b0
      refine ⟨D2, b4, fun o G' D' k => ?_⟩
      have hth : f_X12_thrown D2 = some (Int32.ofNat 4) := by rw [← b3]; rfl
      refine am_aload_n (am_dec tmL_law_20 11 rfl) rfl rfl ?_
      refine am_aload_n (am_dec tmL_law_20 12 rfl) rfl rfl ?_
      refine am_iload (am_dec tmL_law_20 13 rfl) rfl ?_
      refine am_iconst (v := (1 : Int32)) (am_dec tmL_law_20 14 rfl) (by decide) ?_
      refine am_iadd (am_dec tmL_law_20 15 rfl) ?_
      refine am_sld (j := i + 1) hE (am_dec tmL_law_20 16 rfl) (k_iz i 1) (by omega) hL ?_
      refine am_aload_n (am_dec tmL_law_20 17 rfl) rfl rfl ?_
      refine am_iload (am_dec tmL_law_20 18 rfl) rfl ?_
      refine am_iconst (v := (2 : Int32)) (am_dec tmL_law_20 19 rfl) (by decide) ?_
      refine am_iadd (am_dec tmL_law_20 20 rfl) ?_
      refine am_sld (j := i + 2) hE (am_dec tmL_law_20 21 rfl) (k_iz i 2) (by omega) hL ?_
      refine am_aload_n (am_dec tmL_law_20 22 rfl) rfl rfl ?_
      refine am_iload (am_dec tmL_law_20 23 rfl) rfl ?_
      refine am_iconst (v := (3 : Int32)) (am_dec tmL_law_20 24 rfl) (by decide) ?_
      refine am_iadd (am_dec tmL_law_20 25 rfl) ?_
      refine am_sld (j := i + 3) hE (am_dec tmL_law_20 26 rfl) (k_iz i 3) (by omega) hL ?_
      refine am_aload_n (am_dec tmL_law_20 27 rfl) rfl rfl ?_
      refine am_iload (am_dec tmL_law_20 28 rfl) rfl ?_
      refine am_iconst (v := (4 : Int32)) (am_dec tmL_law_20 29 rfl) (by decide) ?_
      refine am_iadd (am_dec tmL_law_20 30 rfl) ?_
      refine am_sld (j := i + 4) hE (am_dec tmL_law_20 31 rfl) (k_iz i 4) (by omega) hL ?_
      refine am_aload_n (am_dec tmL_law_20 32 rfl) rfl rfl ?_
      refine am_callSH (As := [.ref 16, .int (am_x E (i + 1)), .int (am_x E (i + 2)), .int (am_x E (i + 3)), .int (am_x E (i + 4)), .ref 2637]) (st := []) (am_dec tmL_law_20 33 rfl) ok_L_sing (fun h => nomatch h) lmL_263 st_L_sing (xw_sing_4 hE b1) rfl (by decide) (Nat.le_of_ble_eq_true rfl) hc hs rfl ?_
      refine am_istore (lv' := [(0, .ref 0), (1, .ref 16), (2, .ref 117), (3, .ref 2637), (4, .int (Int32.ofNat i)), (5, .int (4 : Int32))]) (am_dec tmL_law_20 34 rfl) (by decide) rfl ?_
      refine am_aload_n (am_dec tmL_law_20 35 rfl) rfl rfl ?_
      refine am_aload_n (am_dec tmL_law_20 36 rfl) rfl rfl ?_
      refine am_iload (am_dec tmL_law_20 37 rfl) rfl ?_
      refine am_iconst (v := (1 : Int32)) (am_dec tmL_law_20 38 rfl) (by decide) ?_
      refine am_iadd (am_dec tmL_law_20 39 rfl) ?_
      refine am_sld (j := i + 1) hE (am_dec tmL_law_20 40 rfl) (k_iz i 1) (by omega) hL ?_
      refine am_aload_n (am_dec tmL_law_20 41 rfl) rfl rfl ?_
      refine am_iload (am_dec tmL_law_20 42 rfl) rfl ?_
      refine am_iconst (v := (2 : Int32)) (am_dec tmL_law_20 43 rfl) (by decide) ?_
      refine am_iadd (am_dec tmL_law_20 44 rfl) ?_
      refine am_sld (j := i + 2) hE (am_dec tmL_law_20 45 rfl) (k_iz i 2) (by omega) hL ?_
      refine am_aload_n (am_dec tmL_law_20 46 rfl) rfl rfl ?_
      refine am_iload (am_dec tmL_law_20 47 rfl) rfl ?_
      refine am_iconst (v := (3 : Int32)) (am_dec tmL_law_20 48 rfl) (by decide) ?_
      refine am_iadd (am_dec tmL_law_20 49 rfl) ?_
      refine am_sld (j := i + 3) hE (am_dec tmL_law_20 50 rfl) (k_iz i 3) (by omega) hL ?_
      refine am_aload_n (am_dec tmL_law_20 51 rfl) rfl rfl ?_
      refine am_iload (am_dec tmL_law_20 52 rfl) rfl ?_
      refine am_iconst (v := (4 : Int32)) (am_dec tmL_law_20 53 rfl) (by decide) ?_
      refine am_iadd (am_dec tmL_law_20 54 rfl) ?_
      refine am_sld (j := i + 4) hE (am_dec tmL_law_20 55 rfl) (k_iz i 4) (by omega) hL ?_
      refine am_callV1 (As := [.int (am_x E (i + 1)), .int (am_x E (i + 2)), .int (am_x E (i + 3)), .int (am_x E (i + 4))]) (st := []) hE (am_dec tmL_law_20 56 rfl) ok_X12_sing rfl lmL_265 in_X12_sing se_X12_sing sh_117 cf12 (c_X12_sing hE b2) rfl (by decide) (Nat.le_of_ble_eq_true rfl) hc hs rfl ?_
      refine am_istore (lv' := [(0, .ref 0), (1, .ref 16), (2, .ref 117), (3, .ref 2637), (4, .int (Int32.ofNat i)), (5, .int (4 : Int32)), (6, .int u)]) (am_dec tmL_law_20 57 rfl) (by decide) rfl ?_
      refine am_aload_n (am_dec tmL_law_20 58 rfl) rfl rfl ?_
      refine am_callV1 (As := []) (st := []) hE (am_dec tmL_law_20 59 rfl) ok_X12_thrown rfl lmL_169 in_X12_thrown se_X12_thrown sh_117 cf12 (c_X12_thrown hE hth) rfl (by decide) (Nat.le_of_ble_eq_true rfl) hc hs rfl ?_
      refine am_iload (am_dec tmL_law_21 0 rfl) rfl ?_
      refine am_icmp_eq (tgt := 2117) (am_dec tmL_law_21 1 rfl) (by decide) (fun _ => ?_) (fun h => absurd rfl h)
      refine am_iload (am_dec tmL_law_21 4 rfl) rfl ?_
      refine am_if_ne (tgt := 2134) (am_dec tmL_law_21 5 rfl) (by decide) (fun _ => ?_) (fun h => absurd h (by decide))
      refine am_goto (tgt := 3717) (am_dec tmL_law_21 15 rfl) (by decide) ?_
      refine am_pick [0, 1, 2, 3, 4] rfl ?_
      exact k
    · cases b0
set_option maxRecDepth 100000 in
set_option maxHeartbeats 4000000 in
theorem lw_jump {E : am_E} (hE : am_EH E) {D : am_D} (q : k_Q D D) {mc ms cu su i : Nat} (hL : am_L E ≤ 3072) (hi : i + 6 ≤ am_L E) (hc : cu + 1 ≤ mc) (hs : su + 6 ≤ ms) : ∃ D1, k_Q D1 D1 ∧ ∀ (o : am_O) (G' : am_G) (D' : am_D), am_S E mL_law 12 mc ms o G' D' (cu + 1) (su + 6) 3717 [(0, .ref 0), (1, .ref 16), (2, .ref 117), (3, .ref 2637), (4, .int (Int32.ofNat i))] [] am_G0 D1 → am_S E mL_law 12 mc ms o G' D' cu su 2137 [(0, .ref 0), (1, .ref 16), (2, .ref 117), (3, .ref 2637), (4, .int (Int32.ofNat i))] [] am_G0 D := by
  obtain ⟨D1, D2, v, a1, a2, a4⟩ := k_joinN (f1 := fun D => k_lv D (f_X11_jump D)) (f2 := fun D => f_X12_jump D) (fun D E9 h => op_jump h) q
  obtain ⟨a1, rfl⟩ := k_lv_r a1
  refine ⟨D2, a4, fun o G' D' k => ?_⟩
  refine am_aload_n (am_dec tmL_law_21 16 rfl) rfl rfl ?_
  refine am_callV1 (As := []) (st := []) hE (am_dec tmL_law_21 17 rfl) ok_X11_jump rfl lmL_266 in_X11_jump se_X11_jump sh_16 cf11 (c_X11_jump hE a1) rfl (by decide) (Nat.le_of_ble_eq_true rfl) (Nat.le_trans (Nat.le_add_right _ 1) hc) (Nat.le_trans (Nat.le_add_right _ 6) hs) rfl ?_
  refine am_aload_n (am_dec tmL_law_21 18 rfl) rfl rfl ?_
  refine am_callV1 (As := []) (st := [.int v]) hE (am_dec tmL_law_21 19 rfl) ok_X12_jump rfl lmL_269 in_X12_jump se_X12_jump sh_117 cf12 (c_X12_jump hE a2) rfl (by decide) (Nat.le_of_ble_eq_true rfl) (Nat.le_trans (Nat.le_add_right _ 1) hc) (Nat.le_trans (Nat.le_add_right _ 6) hs) rfl ?_
  refine am_icmp_eq (tgt := 3717) (am_dec tmL_law_21 20 rfl) (by decide) (fun _ => ?_) (fun h => absurd rfl h)
  refine am_pick [0, 1, 2, 3, 4] rfl ?_
  exact am_wide (Nat.le_add_right _ _) (Nat.le_add_right _ _) k
set_option maxRecDepth 100000 in
set_option maxHeartbeats 4000000 in
theorem lw_crossing {E : am_E} (hE : am_EH E) {D : am_D} (q : k_Q D D) {mc ms cu su i : Nat} (hL : am_L E ≤ 3072) (hi : i + 6 ≤ am_L E) (hc : cu + 1 ≤ mc) (hs : su + 6 ≤ ms) : ∃ D1, k_Q D1 D1 ∧ ∀ (o : am_O) (G' : am_G) (D' : am_D), am_S E mL_law 12 mc ms o G' D' (cu + 1) (su + 6) 3717 [(0, .ref 0), (1, .ref 16), (2, .ref 117), (3, .ref 2637), (4, .int (Int32.ofNat i))] [] am_G0 D1 → am_S E mL_law 12 mc ms o G' D' cu su 2150 [(0, .ref 0), (1, .ref 16), (2, .ref 117), (3, .ref 2637), (4, .int (Int32.ofNat i))] [] am_G0 D := by
  rcases k_joinE (f1 := fun D => f_X11_crossing (am_x E (i + 1)) (am_x E (i + 2)) D) (f2 := fun D => f_X12_crossing (am_x E (i + 1)) (am_x E (i + 2)) D) (ex := ["java/util/NoSuchElementException"]) (fun v => v.toInt64) (fun D E9 h => op_crossing h (am_x E (i + 1)) (am_x E (i + 2))) q with ⟨D1, D2, v, a1, a2, a3, a4, a5⟩ | ⟨D1, D2, u, j, nm, b0, b1, b2, b3, b4⟩
  · refine ⟨D2, a4, fun o G' D' k => ?_⟩
    have hth : f_X12_thrown D2 = some (0 : Int32) := by rw [← a3]; rfl
    have hld : am_gL D2 2637 1 0 = some (D2.2 2637 0) := k_gl (k := 0) (by decide) (by decide)
    have hcu : ∀ _ : Unit, cu + 1 ≤ mc := fun _ => hc
    have hsu : ∀ _ : Unit, su + 6 ≤ ms := fun _ => hs
    refine am_aload_n (am_dec tmL_law_21 23 rfl) rfl rfl ?_
    refine am_aload_n (am_dec tmL_law_21 24 rfl) rfl rfl ?_
    refine am_iload (am_dec tmL_law_21 25 rfl) rfl ?_
    refine am_iconst (v := (1 : Int32)) (am_dec tmL_law_21 26 rfl) (by decide) ?_
    refine am_iadd (am_dec tmL_law_21 27 rfl) ?_
    refine am_sld (j := i + 1) hE (am_dec tmL_law_21 28 rfl) (k_iz i 1) (by omega) hL ?_
    refine am_aload_n (am_dec tmL_law_21 29 rfl) rfl rfl ?_
    refine am_iload (am_dec tmL_law_21 30 rfl) rfl ?_
    refine am_iconst (v := (2 : Int32)) (am_dec tmL_law_21 31 rfl) (by decide) ?_
    refine am_iadd (am_dec tmL_law_21 32 rfl) ?_
    refine am_sld (j := i + 2) hE (am_dec tmL_law_21 33 rfl) (k_iz i 2) (by omega) hL ?_
    refine am_aload_n (am_dec tmL_law_21 34 rfl) rfl rfl ?_
    refine am_callSH (As := [.ref 16, .int (am_x E (i + 1)), .int (am_x E (i + 2)), .ref 2637]) (st := []) (am_dec tmL_law_21 35 rfl) ok_L_crossing (fun h => nomatch h) lmL_270 st_L_crossing (cw_crossing hE a1) rfl (by decide) (Nat.le_of_ble_eq_true rfl) hc hs rfl ?_
    refine am_istore (lv' := [(0, .ref 0), (1, .ref 16), (2, .ref 117), (3, .ref 2637), (4, .int (Int32.ofNat i)), (5, .int (0 : Int32))]) (am_dec tmL_law_21 36 rfl) (by decide) rfl ?_
    refine am_aload_n (am_dec tmL_law_21 37 rfl) rfl rfl ?_
    refine am_aload_n (am_dec tmL_law_21 38 rfl) rfl rfl ?_
    refine am_iload (am_dec tmL_law_21 39 rfl) rfl ?_
    refine am_iconst (v := (1 : Int32)) (am_dec tmL_law_21 40 rfl) (by decide) ?_
    refine am_iadd (am_dec tmL_law_21 41 rfl) ?_
    refine am_sld (j := i + 1) hE (am_dec tmL_law_21 42 rfl) (k_iz i 1) (by omega) hL ?_
    refine am_aload_n (am_dec tmL_law_21 43 rfl) rfl rfl ?_
    refine am_iload (am_dec tmL_law_21 44 rfl) rfl ?_
    refine am_iconst (v := (2 : Int32)) (am_dec tmL_law_21 45 rfl) (by decide) ?_
    refine am_iadd (am_dec tmL_law_21 46 rfl) ?_
    refine am_sld (j := i + 2) hE (am_dec tmL_law_21 47 rfl) (k_iz i 2) (by omega) hL ?_
    refine am_callV1 (As := [.int (am_x E (i + 1)), .int (am_x E (i + 2))]) (st := []) hE (am_dec tmL_law_21 48 rfl) ok_X12_crossing rfl lmL_272 in_X12_crossing se_X12_crossing sh_117 cf12 (c_X12_crossing hE a2) rfl (by decide) (Nat.le_of_ble_eq_true rfl) hc hs rfl ?_
    refine am_istore (lv' := [(0, .ref 0), (1, .ref 16), (2, .ref 117), (3, .ref 2637), (4, .int (Int32.ofNat i)), (5, .int (0 : Int32)), (6, .int v)]) (am_dec tmL_law_21 49 rfl) (by decide) rfl ?_
    refine am_aload_n (am_dec tmL_law_21 50 rfl) rfl rfl ?_
    refine am_callV1 (As := []) (st := []) hE (am_dec tmL_law_21 51 rfl) ok_X12_thrown rfl lmL_169 in_X12_thrown se_X12_thrown sh_117 cf12 (c_X12_thrown hE hth) rfl (by decide) (Nat.le_of_ble_eq_true rfl) hc hs rfl ?_
    refine am_iload (am_dec tmL_law_21 52 rfl) rfl ?_
    refine am_icmp_eq (tgt := 2198) (am_dec tmL_law_21 53 rfl) (by decide) (fun _ => ?_) (fun h => absurd rfl h)
    refine am_iload (am_dec tmL_law_21 56 rfl) rfl ?_
    refine am_if_ne (tgt := 2215) (am_dec tmL_law_21 57 rfl) (by decide) (fun h => absurd rfl h) (fun _ => ?_)
    refine am_aload_n (am_dec tmL_law_21 58 rfl) rfl rfl ?_
    refine am_iconst (v := (0 : Int32)) (am_dec tmL_law_21 59 rfl) (by decide) ?_
    refine am_lald2 (n := 1) (i := 0) (v := v.toInt64) hE (am_dec tmL_law_22 0 rfl) shq_2637 (hld.trans (congrArg some a5)) ?_
    refine am_iload (am_dec tmL_law_22 1 rfl) rfl ?_
    refine am_i2l (am_dec tmL_law_22 2 rfl) ?_
    refine am_lcmp (am_dec tmL_law_22 3 rfl) ?_
    refine am_if_eq (tgt := 2215) (am_dec tmL_law_22 4 rfl) (by decide) (fun _ => ?_) (fun h => absurd (k_cmp _) h)
    refine am_goto (tgt := 3717) (am_dec tmL_law_22 7 rfl) (by decide) ?_
    refine am_pick [0, 1, 2, 3, 4] rfl ?_
    exact k
  · rcases j with _ | j
    · cases b0
      refine ⟨D2, b4, fun o G' D' k => ?_⟩
      have hth : f_X12_thrown D2 = some (Int32.ofNat 1) := by rw [← b3]; rfl
      refine am_aload_n (am_dec tmL_law_21 23 rfl) rfl rfl ?_
      refine am_aload_n (am_dec tmL_law_21 24 rfl) rfl rfl ?_
      refine am_iload (am_dec tmL_law_21 25 rfl) rfl ?_
      refine am_iconst (v := (1 : Int32)) (am_dec tmL_law_21 26 rfl) (by decide) ?_
      refine am_iadd (am_dec tmL_law_21 27 rfl) ?_
      refine am_sld (j := i + 1) hE (am_dec tmL_law_21 28 rfl) (k_iz i 1) (by omega) hL ?_
      refine am_aload_n (am_dec tmL_law_21 29 rfl) rfl rfl ?_
      refine am_iload (am_dec tmL_law_21 30 rfl) rfl ?_
      refine am_iconst (v := (2 : Int32)) (am_dec tmL_law_21 31 rfl) (by decide) ?_
      refine am_iadd (am_dec tmL_law_21 32 rfl) ?_
      refine am_sld (j := i + 2) hE (am_dec tmL_law_21 33 rfl) (k_iz i 2) (by omega) hL ?_
      refine am_aload_n (am_dec tmL_law_21 34 rfl) rfl rfl ?_
      refine am_callSH (As := [.ref 16, .int (am_x E (i + 1)), .int (am_x E (i + 2)), .ref 2637]) (st := []) (am_dec tmL_law_21 35 rfl) ok_L_crossing (fun h => nomatch h) lmL_270 st_L_crossing (xw_crossing_1 hE b1) rfl (by decide) (Nat.le_of_ble_eq_true rfl) hc hs rfl ?_
      refine am_istore (lv' := [(0, .ref 0), (1, .ref 16), (2, .ref 117), (3, .ref 2637), (4, .int (Int32.ofNat i)), (5, .int (1 : Int32))]) (am_dec tmL_law_21 36 rfl) (by decide) rfl ?_
      refine am_aload_n (am_dec tmL_law_21 37 rfl) rfl rfl ?_
      refine am_aload_n (am_dec tmL_law_21 38 rfl) rfl rfl ?_
      refine am_iload (am_dec tmL_law_21 39 rfl) rfl ?_
      refine am_iconst (v := (1 : Int32)) (am_dec tmL_law_21 40 rfl) (by decide) ?_
      refine am_iadd (am_dec tmL_law_21 41 rfl) ?_
      refine am_sld (j := i + 1) hE (am_dec tmL_law_21 42 rfl) (k_iz i 1) (by omega) hL ?_
      refine am_aload_n (am_dec tmL_law_21 43 rfl) rfl rfl ?_
      refine am_iload (am_dec tmL_law_21 44 rfl) rfl ?_
      refine am_iconst (v := (2 : Int32)) (am_dec tmL_law_21 45 rfl) (by decide) ?_
      refine am_iadd (am_dec tmL_law_21 46 rfl) ?_
      refine am_sld (j := i + 2) hE (am_dec tmL_law_21 47 rfl) (k_iz i 2) (by omega) hL ?_
      refine am_callV1 (As := [.int (am_x E (i + 1)), .int (am_x E (i + 2))]) (st := []) hE (am_dec tmL_law_21 48 rfl) ok_X12_crossing rfl lmL_272 in_X12_crossing se_X12_crossing sh_117 cf12 (c_X12_crossing hE b2) rfl (by decide) (Nat.le_of_ble_eq_true rfl) hc hs rfl ?_
      refine am_istore (lv' := [(0, .ref 0), (1, .ref 16), (2, .ref 117), (3, .ref 2637), (4, .int (Int32.ofNat i)), (5, .int (1 : Int32)), (6, .int u)]) (am_dec tmL_law_21 49 rfl) (by decide) rfl ?_
      refine am_aload_n (am_dec tmL_law_21 50 rfl) rfl rfl ?_
      refine am_callV1 (As := []) (st := []) hE (am_dec tmL_law_21 51 rfl) ok_X12_thrown rfl lmL_169 in_X12_thrown se_X12_thrown sh_117 cf12 (c_X12_thrown hE hth) rfl (by decide) (Nat.le_of_ble_eq_true rfl) hc hs rfl ?_
      refine am_iload (am_dec tmL_law_21 52 rfl) rfl ?_
      refine am_icmp_eq (tgt := 2198) (am_dec tmL_law_21 53 rfl) (by decide) (fun _ => ?_) (fun h => absurd rfl h)
      refine am_iload (am_dec tmL_law_21 56 rfl) rfl ?_
      refine am_if_ne (tgt := 2215) (am_dec tmL_law_21 57 rfl) (by decide) (fun _ => ?_) (fun h => absurd h (by decide))
      refine am_goto (tgt := 3717) (am_dec tmL_law_22 7 rfl) (by decide) ?_
      refine am_pick [0, 1, 2, 3, 4] rfl ?_
      exact k
    · cases b0
set_option maxRecDepth 100000 in
set_option maxHeartbeats 4000000 in
theorem lw_period {E : am_E} (hE : am_EH E) {D : am_D} (q : k_Q D D) {mc ms cu su i : Nat} (hL : am_L E ≤ 3072) (hi : i + 6 ≤ am_L E) (hc : cu + 1 ≤ mc) (hs : su + 6 ≤ ms) : ∃ D1, k_Q D1 D1 ∧ ∀ (o : am_O) (G' : am_G) (D' : am_D), am_S E mL_law 12 mc ms o G' D' (cu + 1) (su + 6) 3717 [(0, .ref 0), (1, .ref 16), (2, .ref 117), (3, .ref 2637), (4, .int (Int32.ofNat i))] [] am_G0 D1 → am_S E mL_law 12 mc ms o G' D' cu su 2218 [(0, .ref 0), (1, .ref 16), (2, .ref 117), (3, .ref 2637), (4, .int (Int32.ofNat i))] [] am_G0 D := by
  rcases k_joinE (f1 := fun D => f_X11_period (am_x E (i + 1)) D) (f2 := fun D => f_X12_period (am_x E (i + 1)) D) (ex := ["java/util/NoSuchElementException"]) (fun v => v.toInt64) (fun D E9 h => op_period h (am_x E (i + 1))) q with ⟨D1, D2, v, a1, a2, a3, a4, a5⟩ | ⟨D1, D2, u, j, nm, b0, b1, b2, b3, b4⟩
  · refine ⟨D2, a4, fun o G' D' k => ?_⟩
    have hth : f_X12_thrown D2 = some (0 : Int32) := by rw [← a3]; rfl
    have hld : am_gL D2 2637 1 0 = some (D2.2 2637 0) := k_gl (k := 0) (by decide) (by decide)
    have hcu : ∀ _ : Unit, cu + 1 ≤ mc := fun _ => hc
    have hsu : ∀ _ : Unit, su + 6 ≤ ms := fun _ => hs
    refine am_aload_n (am_dec tmL_law_22 8 rfl) rfl rfl ?_
    refine am_aload_n (am_dec tmL_law_22 9 rfl) rfl rfl ?_
    refine am_iload (am_dec tmL_law_22 10 rfl) rfl ?_
    refine am_iconst (v := (1 : Int32)) (am_dec tmL_law_22 11 rfl) (by decide) ?_
    refine am_iadd (am_dec tmL_law_22 12 rfl) ?_
    refine am_sld (j := i + 1) hE (am_dec tmL_law_22 13 rfl) (k_iz i 1) (by omega) hL ?_
    refine am_aload_n (am_dec tmL_law_22 14 rfl) rfl rfl ?_
    refine am_callSH (As := [.ref 16, .int (am_x E (i + 1)), .ref 2637]) (st := []) (am_dec tmL_law_22 15 rfl) ok_L_period (fun h => nomatch h) lmL_273 st_L_period (cw_period hE a1) rfl (by decide) (Nat.le_of_ble_eq_true rfl) hc hs rfl ?_
    refine am_istore (lv' := [(0, .ref 0), (1, .ref 16), (2, .ref 117), (3, .ref 2637), (4, .int (Int32.ofNat i)), (5, .int (0 : Int32))]) (am_dec tmL_law_22 16 rfl) (by decide) rfl ?_
    refine am_aload_n (am_dec tmL_law_22 17 rfl) rfl rfl ?_
    refine am_aload_n (am_dec tmL_law_22 18 rfl) rfl rfl ?_
    refine am_iload (am_dec tmL_law_22 19 rfl) rfl ?_
    refine am_iconst (v := (1 : Int32)) (am_dec tmL_law_22 20 rfl) (by decide) ?_
    refine am_iadd (am_dec tmL_law_22 21 rfl) ?_
    refine am_sld (j := i + 1) hE (am_dec tmL_law_22 22 rfl) (k_iz i 1) (by omega) hL ?_
    refine am_callV1 (As := [.int (am_x E (i + 1))]) (st := []) hE (am_dec tmL_law_22 23 rfl) ok_X12_period rfl lmL_275 in_X12_period se_X12_period sh_117 cf12 (c_X12_period hE a2) rfl (by decide) (Nat.le_of_ble_eq_true rfl) hc hs rfl ?_
    refine am_istore (lv' := [(0, .ref 0), (1, .ref 16), (2, .ref 117), (3, .ref 2637), (4, .int (Int32.ofNat i)), (5, .int (0 : Int32)), (6, .int v)]) (am_dec tmL_law_22 24 rfl) (by decide) rfl ?_
    refine am_aload_n (am_dec tmL_law_22 25 rfl) rfl rfl ?_
    refine am_callV1 (As := []) (st := []) hE (am_dec tmL_law_22 26 rfl) ok_X12_thrown rfl lmL_169 in_X12_thrown se_X12_thrown sh_117 cf12 (c_X12_thrown hE hth) rfl (by decide) (Nat.le_of_ble_eq_true rfl) hc hs rfl ?_
    refine am_iload (am_dec tmL_law_22 27 rfl) rfl ?_
    refine am_icmp_eq (tgt := 2254) (am_dec tmL_law_22 28 rfl) (by decide) (fun _ => ?_) (fun h => absurd rfl h)
    refine am_iload (am_dec tmL_law_22 31 rfl) rfl ?_
    refine am_if_ne (tgt := 2271) (am_dec tmL_law_22 32 rfl) (by decide) (fun h => absurd rfl h) (fun _ => ?_)
    refine am_aload_n (am_dec tmL_law_22 33 rfl) rfl rfl ?_
    refine am_iconst (v := (0 : Int32)) (am_dec tmL_law_22 34 rfl) (by decide) ?_
    refine am_lald2 (n := 1) (i := 0) (v := v.toInt64) hE (am_dec tmL_law_22 35 rfl) shq_2637 (hld.trans (congrArg some a5)) ?_
    refine am_iload (am_dec tmL_law_22 36 rfl) rfl ?_
    refine am_i2l (am_dec tmL_law_22 37 rfl) ?_
    refine am_lcmp (am_dec tmL_law_22 38 rfl) ?_
    refine am_if_eq (tgt := 2271) (am_dec tmL_law_22 39 rfl) (by decide) (fun _ => ?_) (fun h => absurd (k_cmp _) h)
    refine am_goto (tgt := 3717) (am_dec tmL_law_22 42 rfl) (by decide) ?_
    refine am_pick [0, 1, 2, 3, 4] rfl ?_
    exact k
  · rcases j with _ | j
    · cases b0
      refine ⟨D2, b4, fun o G' D' k => ?_⟩
      have hth : f_X12_thrown D2 = some (Int32.ofNat 1) := by rw [← b3]; rfl
      refine am_aload_n (am_dec tmL_law_22 8 rfl) rfl rfl ?_
      refine am_aload_n (am_dec tmL_law_22 9 rfl) rfl rfl ?_
      refine am_iload (am_dec tmL_law_22 10 rfl) rfl ?_
      refine am_iconst (v := (1 : Int32)) (am_dec tmL_law_22 11 rfl) (by decide) ?_
      refine am_iadd (am_dec tmL_law_22 12 rfl) ?_
      refine am_sld (j := i + 1) hE (am_dec tmL_law_22 13 rfl) (k_iz i 1) (by omega) hL ?_
      refine am_aload_n (am_dec tmL_law_22 14 rfl) rfl rfl ?_
      refine am_callSH (As := [.ref 16, .int (am_x E (i + 1)), .ref 2637]) (st := []) (am_dec tmL_law_22 15 rfl) ok_L_period (fun h => nomatch h) lmL_273 st_L_period (xw_period_1 hE b1) rfl (by decide) (Nat.le_of_ble_eq_true rfl) hc hs rfl ?_
      refine am_istore (lv' := [(0, .ref 0), (1, .ref 16), (2, .ref 117), (3, .ref 2637), (4, .int (Int32.ofNat i)), (5, .int (1 : Int32))]) (am_dec tmL_law_22 16 rfl) (by decide) rfl ?_
      refine am_aload_n (am_dec tmL_law_22 17 rfl) rfl rfl ?_
      refine am_aload_n (am_dec tmL_law_22 18 rfl) rfl rfl ?_
      refine am_iload (am_dec tmL_law_22 19 rfl) rfl ?_
      refine am_iconst (v := (1 : Int32)) (am_dec tmL_law_22 20 rfl) (by decide) ?_
      refine am_iadd (am_dec tmL_law_22 21 rfl) ?_
      refine am_sld (j := i + 1) hE (am_dec tmL_law_22 22 rfl) (k_iz i 1) (by omega) hL ?_
      refine am_callV1 (As := [.int (am_x E (i + 1))]) (st := []) hE (am_dec tmL_law_22 23 rfl) ok_X12_period rfl lmL_275 in_X12_period se_X12_period sh_117 cf12 (c_X12_period hE b2) rfl (by decide) (Nat.le_of_ble_eq_true rfl) hc hs rfl ?_
      refine am_istore (lv' := [(0, .ref 0), (1, .ref 16), (2, .ref 117), (3, .ref 2637), (4, .int (Int32.ofNat i)), (5, .int (1 : Int32)), (6, .int u)]) (am_dec tmL_law_22 24 rfl) (by decide) rfl ?_
      refine am_aload_n (am_dec tmL_law_22 25 rfl) rfl rfl ?_
      refine am_callV1 (As := []) (st := []) hE (am_dec tmL_law_22 26 rfl) ok_X12_thrown rfl lmL_169 in_X12_thrown se_X12_thrown sh_117 cf12 (c_X12_thrown hE hth) rfl (by decide) (Nat.le_of_ble_eq_true rfl) hc hs rfl ?_
      refine am_iload (am_dec tmL_law_22 27 rfl) rfl ?_
      refine am_icmp_eq (tgt := 2254) (am_dec tmL_law_22 28 rfl) (by decide) (fun _ => ?_) (fun h => absurd rfl h)
      refine am_iload (am_dec tmL_law_22 31 rfl) rfl ?_
      refine am_if_ne (tgt := 2271) (am_dec tmL_law_22 32 rfl) (by decide) (fun _ => ?_) (fun h => absurd h (by decide))
      refine am_goto (tgt := 3717) (am_dec tmL_law_22 42 rfl) (by decide) ?_
      refine am_pick [0, 1, 2, 3, 4] rfl ?_
      exact k
    · cases b0
set_option maxRecDepth 100000 in
set_option maxHeartbeats 4000000 in
theorem lw_hum {E : am_E} (hE : am_EH E) {D : am_D} (q : k_Q D D) {mc ms cu su i : Nat} (hL : am_L E ≤ 3072) (hi : i + 6 ≤ am_L E) (hc : cu + 1 ≤ mc) (hs : su + 6 ≤ ms) : ∃ D1, k_Q D1 D1 ∧ ∀ (o : am_O) (G' : am_G) (D' : am_D), am_S E mL_law 12 mc ms o G' D' (cu + 1) (su + 6) 3717 [(0, .ref 0), (1, .ref 16), (2, .ref 117), (3, .ref 2637), (4, .int (Int32.ofNat i))] [] am_G0 D1 → am_S E mL_law 12 mc ms o G' D' cu su 2274 [(0, .ref 0), (1, .ref 16), (2, .ref 117), (3, .ref 2637), (4, .int (Int32.ofNat i))] [] am_G0 D := by
  rcases k_joinE (f1 := fun D => f_X11_hum (am_x E (i + 1)) D) (f2 := fun D => f_X12_hum (am_x E (i + 1)) D) (ex := ["java/lang/IllegalArgumentException"]) (fun v => v.toInt64) (fun D E9 h => op_hum h (am_x E (i + 1))) q with ⟨D1, D2, v, a1, a2, a3, a4, a5⟩ | ⟨D1, D2, u, j, nm, b0, b1, b2, b3, b4⟩
  · refine ⟨D2, a4, fun o G' D' k => ?_⟩
    have hth : f_X12_thrown D2 = some (0 : Int32) := by rw [← a3]; rfl
    have hld : am_gL D2 2637 1 0 = some (D2.2 2637 0) := k_gl (k := 0) (by decide) (by decide)
    have hcu : ∀ _ : Unit, cu + 1 ≤ mc := fun _ => hc
    have hsu : ∀ _ : Unit, su + 6 ≤ ms := fun _ => hs
    refine am_aload_n (am_dec tmL_law_22 43 rfl) rfl rfl ?_
    refine am_aload_n (am_dec tmL_law_22 44 rfl) rfl rfl ?_
    refine am_iload (am_dec tmL_law_22 45 rfl) rfl ?_
    refine am_iconst (v := (1 : Int32)) (am_dec tmL_law_22 46 rfl) (by decide) ?_
    refine am_iadd (am_dec tmL_law_22 47 rfl) ?_
    refine am_sld (j := i + 1) hE (am_dec tmL_law_22 48 rfl) (k_iz i 1) (by omega) hL ?_
    refine am_aload_n (am_dec tmL_law_22 49 rfl) rfl rfl ?_
    refine am_callSH (As := [.ref 16, .int (am_x E (i + 1)), .ref 2637]) (st := []) (am_dec tmL_law_22 50 rfl) ok_L_hum (fun h => nomatch h) lmL_276 st_L_hum (cw_hum hE a1) rfl (by decide) (Nat.le_of_ble_eq_true rfl) hc hs rfl ?_
    refine am_istore (lv' := [(0, .ref 0), (1, .ref 16), (2, .ref 117), (3, .ref 2637), (4, .int (Int32.ofNat i)), (5, .int (0 : Int32))]) (am_dec tmL_law_22 51 rfl) (by decide) rfl ?_
    refine am_aload_n (am_dec tmL_law_22 52 rfl) rfl rfl ?_
    refine am_aload_n (am_dec tmL_law_22 53 rfl) rfl rfl ?_
    refine am_iload (am_dec tmL_law_22 54 rfl) rfl ?_
    refine am_iconst (v := (1 : Int32)) (am_dec tmL_law_22 55 rfl) (by decide) ?_
    refine am_iadd (am_dec tmL_law_22 56 rfl) ?_
    refine am_sld (j := i + 1) hE (am_dec tmL_law_22 57 rfl) (k_iz i 1) (by omega) hL ?_
    refine am_callV1 (As := [.int (am_x E (i + 1))]) (st := []) hE (am_dec tmL_law_22 58 rfl) ok_X12_hum rfl lmL_278 in_X12_hum se_X12_hum sh_117 cf12 (c_X12_hum hE a2) rfl (by decide) (Nat.le_of_ble_eq_true rfl) hc hs rfl ?_
    refine am_istore (lv' := [(0, .ref 0), (1, .ref 16), (2, .ref 117), (3, .ref 2637), (4, .int (Int32.ofNat i)), (5, .int (0 : Int32)), (6, .int v)]) (am_dec tmL_law_22 59 rfl) (by decide) rfl ?_
    refine am_aload_n (am_dec tmL_law_23 0 rfl) rfl rfl ?_
    refine am_callV1 (As := []) (st := []) hE (am_dec tmL_law_23 1 rfl) ok_X12_thrown rfl lmL_169 in_X12_thrown se_X12_thrown sh_117 cf12 (c_X12_thrown hE hth) rfl (by decide) (Nat.le_of_ble_eq_true rfl) hc hs rfl ?_
    refine am_iload (am_dec tmL_law_23 2 rfl) rfl ?_
    refine am_icmp_eq (tgt := 2310) (am_dec tmL_law_23 3 rfl) (by decide) (fun _ => ?_) (fun h => absurd rfl h)
    refine am_iload (am_dec tmL_law_23 6 rfl) rfl ?_
    refine am_if_ne (tgt := 2327) (am_dec tmL_law_23 7 rfl) (by decide) (fun h => absurd rfl h) (fun _ => ?_)
    refine am_aload_n (am_dec tmL_law_23 8 rfl) rfl rfl ?_
    refine am_iconst (v := (0 : Int32)) (am_dec tmL_law_23 9 rfl) (by decide) ?_
    refine am_lald2 (n := 1) (i := 0) (v := v.toInt64) hE (am_dec tmL_law_23 10 rfl) shq_2637 (hld.trans (congrArg some a5)) ?_
    refine am_iload (am_dec tmL_law_23 11 rfl) rfl ?_
    refine am_i2l (am_dec tmL_law_23 12 rfl) ?_
    refine am_lcmp (am_dec tmL_law_23 13 rfl) ?_
    refine am_if_eq (tgt := 2327) (am_dec tmL_law_23 14 rfl) (by decide) (fun _ => ?_) (fun h => absurd (k_cmp _) h)
    refine am_goto (tgt := 3717) (am_dec tmL_law_23 17 rfl) (by decide) ?_
    refine am_pick [0, 1, 2, 3, 4] rfl ?_
    exact k
  · rcases j with _ | j
    · cases b0
      refine ⟨D2, b4, fun o G' D' k => ?_⟩
      have hth : f_X12_thrown D2 = some (Int32.ofNat 1) := by rw [← b3]; rfl
      refine am_aload_n (am_dec tmL_law_22 43 rfl) rfl rfl ?_
      refine am_aload_n (am_dec tmL_law_22 44 rfl) rfl rfl ?_
      refine am_iload (am_dec tmL_law_22 45 rfl) rfl ?_
      refine am_iconst (v := (1 : Int32)) (am_dec tmL_law_22 46 rfl) (by decide) ?_
      refine am_iadd (am_dec tmL_law_22 47 rfl) ?_
      refine am_sld (j := i + 1) hE (am_dec tmL_law_22 48 rfl) (k_iz i 1) (by omega) hL ?_
      refine am_aload_n (am_dec tmL_law_22 49 rfl) rfl rfl ?_
      refine am_callSH (As := [.ref 16, .int (am_x E (i + 1)), .ref 2637]) (st := []) (am_dec tmL_law_22 50 rfl) ok_L_hum (fun h => nomatch h) lmL_276 st_L_hum (xw_hum_1 hE b1) rfl (by decide) (Nat.le_of_ble_eq_true rfl) hc hs rfl ?_
      refine am_istore (lv' := [(0, .ref 0), (1, .ref 16), (2, .ref 117), (3, .ref 2637), (4, .int (Int32.ofNat i)), (5, .int (1 : Int32))]) (am_dec tmL_law_22 51 rfl) (by decide) rfl ?_
      refine am_aload_n (am_dec tmL_law_22 52 rfl) rfl rfl ?_
      refine am_aload_n (am_dec tmL_law_22 53 rfl) rfl rfl ?_
      refine am_iload (am_dec tmL_law_22 54 rfl) rfl ?_
      refine am_iconst (v := (1 : Int32)) (am_dec tmL_law_22 55 rfl) (by decide) ?_
      refine am_iadd (am_dec tmL_law_22 56 rfl) ?_
      refine am_sld (j := i + 1) hE (am_dec tmL_law_22 57 rfl) (k_iz i 1) (by omega) hL ?_
      refine am_callV1 (As := [.int (am_x E (i + 1))]) (st := []) hE (am_dec tmL_law_22 58 rfl) ok_X12_hum rfl lmL_278 in_X12_hum se_X12_hum sh_117 cf12 (c_X12_hum hE b2) rfl (by decide) (Nat.le_of_ble_eq_true rfl) hc hs rfl ?_
      refine am_istore (lv' := [(0, .ref 0), (1, .ref 16), (2, .ref 117), (3, .ref 2637), (4, .int (Int32.ofNat i)), (5, .int (1 : Int32)), (6, .int u)]) (am_dec tmL_law_22 59 rfl) (by decide) rfl ?_
      refine am_aload_n (am_dec tmL_law_23 0 rfl) rfl rfl ?_
      refine am_callV1 (As := []) (st := []) hE (am_dec tmL_law_23 1 rfl) ok_X12_thrown rfl lmL_169 in_X12_thrown se_X12_thrown sh_117 cf12 (c_X12_thrown hE hth) rfl (by decide) (Nat.le_of_ble_eq_true rfl) hc hs rfl ?_
      refine am_iload (am_dec tmL_law_23 2 rfl) rfl ?_
      refine am_icmp_eq (tgt := 2310) (am_dec tmL_law_23 3 rfl) (by decide) (fun _ => ?_) (fun h => absurd rfl h)
      refine am_iload (am_dec tmL_law_23 6 rfl) rfl ?_
      refine am_if_ne (tgt := 2327) (am_dec tmL_law_23 7 rfl) (by decide) (fun _ => ?_) (fun h => absurd h (by decide))
      refine am_goto (tgt := 3717) (am_dec tmL_law_23 17 rfl) (by decide) ?_
      refine am_pick [0, 1, 2, 3, 4] rfl ?_
      exact k
    · cases b0
set_option maxRecDepth 100000 in
set_option maxHeartbeats 4000000 in
theorem lw_meant {E : am_E} (hE : am_EH E) {D : am_D} (q : k_Q D D) {mc ms cu su i : Nat} (hL : am_L E ≤ 3072) (hi : i + 6 ≤ am_L E) (hc : cu + 1 ≤ mc) (hs : su + 6 ≤ ms) : ∃ D1, k_Q D1 D1 ∧ ∀ (o : am_O) (G' : am_G) (D' : am_D), am_S E mL_law 12 mc ms o G' D' (cu + 1) (su + 6) 3717 [(0, .ref 0), (1, .ref 16), (2, .ref 117), (3, .ref 2637), (4, .int (Int32.ofNat i))] [] am_G0 D1 → am_S E mL_law 12 mc ms o G' D' cu su 2330 [(0, .ref 0), (1, .ref 16), (2, .ref 117), (3, .ref 2637), (4, .int (Int32.ofNat i))] [] am_G0 D := by
  rcases k_joinE (f1 := fun D => f_X11_meant (am_x E (i + 1)) (am_x E (i + 2)) D) (f2 := fun D => f_X12_meant (am_x E (i + 1)) (am_x E (i + 2)) D) (ex := ["java/util/NoSuchElementException", "java/lang/IllegalArgumentException"]) (fun v => v.toInt64) (fun D E9 h => op_meant h (am_x E (i + 1)) (am_x E (i + 2))) q with ⟨D1, D2, v, a1, a2, a3, a4, a5⟩ | ⟨D1, D2, u, j, nm, b0, b1, b2, b3, b4⟩
  · refine ⟨D2, a4, fun o G' D' k => ?_⟩
    have hth : f_X12_thrown D2 = some (0 : Int32) := by rw [← a3]; rfl
    have hld : am_gL D2 2637 1 0 = some (D2.2 2637 0) := k_gl (k := 0) (by decide) (by decide)
    have hcu : ∀ _ : Unit, cu + 1 ≤ mc := fun _ => hc
    have hsu : ∀ _ : Unit, su + 6 ≤ ms := fun _ => hs
    refine am_aload_n (am_dec tmL_law_23 18 rfl) rfl rfl ?_
    refine am_aload_n (am_dec tmL_law_23 19 rfl) rfl rfl ?_
    refine am_iload (am_dec tmL_law_23 20 rfl) rfl ?_
    refine am_iconst (v := (1 : Int32)) (am_dec tmL_law_23 21 rfl) (by decide) ?_
    refine am_iadd (am_dec tmL_law_23 22 rfl) ?_
    refine am_sld (j := i + 1) hE (am_dec tmL_law_23 23 rfl) (k_iz i 1) (by omega) hL ?_
    refine am_aload_n (am_dec tmL_law_23 24 rfl) rfl rfl ?_
    refine am_iload (am_dec tmL_law_23 25 rfl) rfl ?_
    refine am_iconst (v := (2 : Int32)) (am_dec tmL_law_23 26 rfl) (by decide) ?_
    refine am_iadd (am_dec tmL_law_23 27 rfl) ?_
    refine am_sld (j := i + 2) hE (am_dec tmL_law_23 28 rfl) (k_iz i 2) (by omega) hL ?_
    refine am_aload_n (am_dec tmL_law_23 29 rfl) rfl rfl ?_
    refine am_callSH (As := [.ref 16, .int (am_x E (i + 1)), .int (am_x E (i + 2)), .ref 2637]) (st := []) (am_dec tmL_law_23 30 rfl) ok_L_meant (fun h => nomatch h) lmL_279 st_L_meant (cw_meant hE a1) rfl (by decide) (Nat.le_of_ble_eq_true rfl) hc hs rfl ?_
    refine am_istore (lv' := [(0, .ref 0), (1, .ref 16), (2, .ref 117), (3, .ref 2637), (4, .int (Int32.ofNat i)), (5, .int (0 : Int32))]) (am_dec tmL_law_23 31 rfl) (by decide) rfl ?_
    refine am_aload_n (am_dec tmL_law_23 32 rfl) rfl rfl ?_
    refine am_aload_n (am_dec tmL_law_23 33 rfl) rfl rfl ?_
    refine am_iload (am_dec tmL_law_23 34 rfl) rfl ?_
    refine am_iconst (v := (1 : Int32)) (am_dec tmL_law_23 35 rfl) (by decide) ?_
    refine am_iadd (am_dec tmL_law_23 36 rfl) ?_
    refine am_sld (j := i + 1) hE (am_dec tmL_law_23 37 rfl) (k_iz i 1) (by omega) hL ?_
    refine am_aload_n (am_dec tmL_law_23 38 rfl) rfl rfl ?_
    refine am_iload (am_dec tmL_law_23 39 rfl) rfl ?_
    refine am_iconst (v := (2 : Int32)) (am_dec tmL_law_23 40 rfl) (by decide) ?_
    refine am_iadd (am_dec tmL_law_23 41 rfl) ?_
    refine am_sld (j := i + 2) hE (am_dec tmL_law_23 42 rfl) (k_iz i 2) (by omega) hL ?_
    refine am_callV1 (As := [.int (am_x E (i + 1)), .int (am_x E (i + 2))]) (st := []) hE (am_dec tmL_law_23 43 rfl) ok_X12_meant rfl lmL_281 in_X12_meant se_X12_meant sh_117 cf12 (c_X12_meant hE a2) rfl (by decide) (Nat.le_of_ble_eq_true rfl) hc hs rfl ?_
    refine am_istore (lv' := [(0, .ref 0), (1, .ref 16), (2, .ref 117), (3, .ref 2637), (4, .int (Int32.ofNat i)), (5, .int (0 : Int32)), (6, .int v)]) (am_dec tmL_law_23 44 rfl) (by decide) rfl ?_
    refine am_aload_n (am_dec tmL_law_23 45 rfl) rfl rfl ?_
    refine am_callV1 (As := []) (st := []) hE (am_dec tmL_law_23 46 rfl) ok_X12_thrown rfl lmL_169 in_X12_thrown se_X12_thrown sh_117 cf12 (c_X12_thrown hE hth) rfl (by decide) (Nat.le_of_ble_eq_true rfl) hc hs rfl ?_
    refine am_iload (am_dec tmL_law_23 47 rfl) rfl ?_
    refine am_icmp_eq (tgt := 2378) (am_dec tmL_law_23 48 rfl) (by decide) (fun _ => ?_) (fun h => absurd rfl h)
    refine am_iload (am_dec tmL_law_23 51 rfl) rfl ?_
    refine am_if_ne (tgt := 2395) (am_dec tmL_law_23 52 rfl) (by decide) (fun h => absurd rfl h) (fun _ => ?_)
    refine am_aload_n (am_dec tmL_law_23 53 rfl) rfl rfl ?_
    refine am_iconst (v := (0 : Int32)) (am_dec tmL_law_23 54 rfl) (by decide) ?_
    refine am_lald2 (n := 1) (i := 0) (v := v.toInt64) hE (am_dec tmL_law_23 55 rfl) shq_2637 (hld.trans (congrArg some a5)) ?_
    refine am_iload (am_dec tmL_law_23 56 rfl) rfl ?_
    refine am_i2l (am_dec tmL_law_23 57 rfl) ?_
    refine am_lcmp (am_dec tmL_law_23 58 rfl) ?_
    refine am_if_eq (tgt := 2395) (am_dec tmL_law_23 59 rfl) (by decide) (fun _ => ?_) (fun h => absurd (k_cmp _) h)
    refine am_goto (tgt := 3717) (am_dec tmL_law_24 2 rfl) (by decide) ?_
    refine am_pick [0, 1, 2, 3, 4] rfl ?_
    exact k
  · rcases j with _ | _ | j
    · cases b0
      refine ⟨D2, b4, fun o G' D' k => ?_⟩
      have hth : f_X12_thrown D2 = some (Int32.ofNat 1) := by rw [← b3]; rfl
      refine am_aload_n (am_dec tmL_law_23 18 rfl) rfl rfl ?_
      refine am_aload_n (am_dec tmL_law_23 19 rfl) rfl rfl ?_
      refine am_iload (am_dec tmL_law_23 20 rfl) rfl ?_
      refine am_iconst (v := (1 : Int32)) (am_dec tmL_law_23 21 rfl) (by decide) ?_
      refine am_iadd (am_dec tmL_law_23 22 rfl) ?_
      refine am_sld (j := i + 1) hE (am_dec tmL_law_23 23 rfl) (k_iz i 1) (by omega) hL ?_
      refine am_aload_n (am_dec tmL_law_23 24 rfl) rfl rfl ?_
      refine am_iload (am_dec tmL_law_23 25 rfl) rfl ?_
      refine am_iconst (v := (2 : Int32)) (am_dec tmL_law_23 26 rfl) (by decide) ?_
      refine am_iadd (am_dec tmL_law_23 27 rfl) ?_
      refine am_sld (j := i + 2) hE (am_dec tmL_law_23 28 rfl) (k_iz i 2) (by omega) hL ?_
      refine am_aload_n (am_dec tmL_law_23 29 rfl) rfl rfl ?_
      refine am_callSH (As := [.ref 16, .int (am_x E (i + 1)), .int (am_x E (i + 2)), .ref 2637]) (st := []) (am_dec tmL_law_23 30 rfl) ok_L_meant (fun h => nomatch h) lmL_279 st_L_meant (xw_meant_1 hE b1) rfl (by decide) (Nat.le_of_ble_eq_true rfl) hc hs rfl ?_
      refine am_istore (lv' := [(0, .ref 0), (1, .ref 16), (2, .ref 117), (3, .ref 2637), (4, .int (Int32.ofNat i)), (5, .int (1 : Int32))]) (am_dec tmL_law_23 31 rfl) (by decide) rfl ?_
      refine am_aload_n (am_dec tmL_law_23 32 rfl) rfl rfl ?_
      refine am_aload_n (am_dec tmL_law_23 33 rfl) rfl rfl ?_
      refine am_iload (am_dec tmL_law_23 34 rfl) rfl ?_
      refine am_iconst (v := (1 : Int32)) (am_dec tmL_law_23 35 rfl) (by decide) ?_
      refine am_iadd (am_dec tmL_law_23 36 rfl) ?_
      refine am_sld (j := i + 1) hE (am_dec tmL_law_23 37 rfl) (k_iz i 1) (by omega) hL ?_
      refine am_aload_n (am_dec tmL_law_23 38 rfl) rfl rfl ?_
      refine am_iload (am_dec tmL_law_23 39 rfl) rfl ?_
      refine am_iconst (v := (2 : Int32)) (am_dec tmL_law_23 40 rfl) (by decide) ?_
      refine am_iadd (am_dec tmL_law_23 41 rfl) ?_
      refine am_sld (j := i + 2) hE (am_dec tmL_law_23 42 rfl) (k_iz i 2) (by omega) hL ?_
      refine am_callV1 (As := [.int (am_x E (i + 1)), .int (am_x E (i + 2))]) (st := []) hE (am_dec tmL_law_23 43 rfl) ok_X12_meant rfl lmL_281 in_X12_meant se_X12_meant sh_117 cf12 (c_X12_meant hE b2) rfl (by decide) (Nat.le_of_ble_eq_true rfl) hc hs rfl ?_
      refine am_istore (lv' := [(0, .ref 0), (1, .ref 16), (2, .ref 117), (3, .ref 2637), (4, .int (Int32.ofNat i)), (5, .int (1 : Int32)), (6, .int u)]) (am_dec tmL_law_23 44 rfl) (by decide) rfl ?_
      refine am_aload_n (am_dec tmL_law_23 45 rfl) rfl rfl ?_
      refine am_callV1 (As := []) (st := []) hE (am_dec tmL_law_23 46 rfl) ok_X12_thrown rfl lmL_169 in_X12_thrown se_X12_thrown sh_117 cf12 (c_X12_thrown hE hth) rfl (by decide) (Nat.le_of_ble_eq_true rfl) hc hs rfl ?_
      refine am_iload (am_dec tmL_law_23 47 rfl) rfl ?_
      refine am_icmp_eq (tgt := 2378) (am_dec tmL_law_23 48 rfl) (by decide) (fun _ => ?_) (fun h => absurd rfl h)
      refine am_iload (am_dec tmL_law_23 51 rfl) rfl ?_
      refine am_if_ne (tgt := 2395) (am_dec tmL_law_23 52 rfl) (by decide) (fun _ => ?_) (fun h => absurd h (by decide))
      refine am_goto (tgt := 3717) (am_dec tmL_law_24 2 rfl) (by decide) ?_
      refine am_pick [0, 1, 2, 3, 4] rfl ?_
      exact k
    · cases b0
      refine ⟨D2, b4, fun o G' D' k => ?_⟩
      have hth : f_X12_thrown D2 = some (Int32.ofNat 2) := by rw [← b3]; rfl
      refine am_aload_n (am_dec tmL_law_23 18 rfl) rfl rfl ?_
      refine am_aload_n (am_dec tmL_law_23 19 rfl) rfl rfl ?_
      refine am_iload (am_dec tmL_law_23 20 rfl) rfl ?_
      refine am_iconst (v := (1 : Int32)) (am_dec tmL_law_23 21 rfl) (by decide) ?_
      refine am_iadd (am_dec tmL_law_23 22 rfl) ?_
      refine am_sld (j := i + 1) hE (am_dec tmL_law_23 23 rfl) (k_iz i 1) (by omega) hL ?_
      refine am_aload_n (am_dec tmL_law_23 24 rfl) rfl rfl ?_
      refine am_iload (am_dec tmL_law_23 25 rfl) rfl ?_
      refine am_iconst (v := (2 : Int32)) (am_dec tmL_law_23 26 rfl) (by decide) ?_
      refine am_iadd (am_dec tmL_law_23 27 rfl) ?_
      refine am_sld (j := i + 2) hE (am_dec tmL_law_23 28 rfl) (k_iz i 2) (by omega) hL ?_
      refine am_aload_n (am_dec tmL_law_23 29 rfl) rfl rfl ?_
      refine am_callSH (As := [.ref 16, .int (am_x E (i + 1)), .int (am_x E (i + 2)), .ref 2637]) (st := []) (am_dec tmL_law_23 30 rfl) ok_L_meant (fun h => nomatch h) lmL_279 st_L_meant (xw_meant_2 hE b1) rfl (by decide) (Nat.le_of_ble_eq_true rfl) hc hs rfl ?_
      refine am_istore (lv' := [(0, .ref 0), (1, .ref 16), (2, .ref 117), (3, .ref 2637), (4, .int (Int32.ofNat i)), (5, .int (2 : Int32))]) (am_dec tmL_law_23 31 rfl) (by decide) rfl ?_
      refine am_aload_n (am_dec tmL_law_23 32 rfl) rfl rfl ?_
      refine am_aload_n (am_dec tmL_law_23 33 rfl) rfl rfl ?_
      refine am_iload (am_dec tmL_law_23 34 rfl) rfl ?_
      refine am_iconst (v := (1 : Int32)) (am_dec tmL_law_23 35 rfl) (by decide) ?_
      refine am_iadd (am_dec tmL_law_23 36 rfl) ?_
      refine am_sld (j := i + 1) hE (am_dec tmL_law_23 37 rfl) (k_iz i 1) (by omega) hL ?_
      refine am_aload_n (am_dec tmL_law_23 38 rfl) rfl rfl ?_
      refine am_iload (am_dec tmL_law_23 39 rfl) rfl ?_
      refine am_iconst (v := (2 : Int32)) (am_dec tmL_law_23 40 rfl) (by decide) ?_
      refine am_iadd (am_dec tmL_law_23 41 rfl) ?_
      refine am_sld (j := i + 2) hE (am_dec tmL_law_23 42 rfl) (k_iz i 2) (by omega) hL ?_
      refine am_callV1 (As := [.int (am_x E (i + 1)), .int (am_x E (i + 2))]) (st := []) hE (am_dec tmL_law_23 43 rfl) ok_X12_meant rfl lmL_281 in_X12_meant se_X12_meant sh_117 cf12 (c_X12_meant hE b2) rfl (by decide) (Nat.le_of_ble_eq_true rfl) hc hs rfl ?_
      refine am_istore (lv' := [(0, .ref 0), (1, .ref 16), (2, .ref 117), (3, .ref 2637), (4, .int (Int32.ofNat i)), (5, .int (2 : Int32)), (6, .int u)]) (am_dec tmL_law_23 44 rfl) (by decide) rfl ?_
      refine am_aload_n (am_dec tmL_law_23 45 rfl) rfl rfl ?_
      refine am_callV1 (As := []) (st := []) hE (am_dec tmL_law_23 46 rfl) ok_X12_thrown rfl lmL_169 in_X12_thrown se_X12_thrown sh_117 cf12 (c_X12_thrown hE hth) rfl (by decide) (Nat.le_of_ble_eq_true rfl) hc hs rfl ?_
      refine am_iload (am_dec tmL_law_23 47 rfl) rfl ?_
      refine am_icmp_eq (tgt := 2378) (am_dec tmL_law_23 48 rfl) (by decide) (fun _ => ?_) (fun h => absurd rfl h)
      refine am_iload (am_dec tmL_law_23 51 rfl) rfl ?_
      refine am_if_ne (tgt := 2395) (am_dec tmL_law_23 52 rfl) (by decide) (fun _ => ?_) (fun h => absurd h (by decide))
      refine am_goto (tgt := 3717) (am_dec tmL_law_24 2 rfl) (by decide) ?_
      refine am_pick [0, 1, 2, 3, 4] rfl ?_
      exact k
    · cases b0
set_option maxRecDepth 100000 in
set_option maxHeartbeats 4000000 in
theorem lw_undo {E : am_E} (hE : am_EH E) {D : am_D} (q : k_Q D D) {mc ms cu su i : Nat} (hL : am_L E ≤ 3072) (hi : i + 6 ≤ am_L E) (hc : cu + 1 ≤ mc) (hs : su + 6 ≤ ms) : ∃ D1, k_Q D1 D1 ∧ ∀ (o : am_O) (G' : am_G) (D' : am_D), am_S E mL_law 12 mc ms o G' D' (cu + 1) (su + 6) 3717 [(0, .ref 0), (1, .ref 16), (2, .ref 117), (3, .ref 2637), (4, .int (Int32.ofNat i))] [] am_G0 D1 → am_S E mL_law 12 mc ms o G' D' cu su 2398 [(0, .ref 0), (1, .ref 16), (2, .ref 117), (3, .ref 2637), (4, .int (Int32.ofNat i))] [] am_G0 D := by
  rcases k_joinE (f1 := fun D => f_X11_undo (am_x E (i + 1)) (am_x E (i + 2)) D) (f2 := fun D => f_X12_undo (am_x E (i + 1)) (am_x E (i + 2)) D) (ex := ["java/util/NoSuchElementException", "java/lang/IllegalArgumentException"]) (fun v => v.toInt64) (fun D E9 h => op_undo h (am_x E (i + 1)) (am_x E (i + 2))) q with ⟨D1, D2, v, a1, a2, a3, a4, a5⟩ | ⟨D1, D2, u, j, nm, b0, b1, b2, b3, b4⟩
  · refine ⟨D2, a4, fun o G' D' k => ?_⟩
    have hth : f_X12_thrown D2 = some (0 : Int32) := by rw [← a3]; rfl
    have hld : am_gL D2 2637 1 0 = some (D2.2 2637 0) := k_gl (k := 0) (by decide) (by decide)
    have hcu : ∀ _ : Unit, cu + 1 ≤ mc := fun _ => hc
    have hsu : ∀ _ : Unit, su + 6 ≤ ms := fun _ => hs
    refine am_aload_n (am_dec tmL_law_24 3 rfl) rfl rfl ?_
    refine am_aload_n (am_dec tmL_law_24 4 rfl) rfl rfl ?_
    refine am_iload (am_dec tmL_law_24 5 rfl) rfl ?_
    refine am_iconst (v := (1 : Int32)) (am_dec tmL_law_24 6 rfl) (by decide) ?_
    refine am_iadd (am_dec tmL_law_24 7 rfl) ?_
    refine am_sld (j := i + 1) hE (am_dec tmL_law_24 8 rfl) (k_iz i 1) (by omega) hL ?_
    refine am_aload_n (am_dec tmL_law_24 9 rfl) rfl rfl ?_
    refine am_iload (am_dec tmL_law_24 10 rfl) rfl ?_
    refine am_iconst (v := (2 : Int32)) (am_dec tmL_law_24 11 rfl) (by decide) ?_
    refine am_iadd (am_dec tmL_law_24 12 rfl) ?_
    refine am_sld (j := i + 2) hE (am_dec tmL_law_24 13 rfl) (k_iz i 2) (by omega) hL ?_
    refine am_aload_n (am_dec tmL_law_24 14 rfl) rfl rfl ?_
    refine am_callSH (As := [.ref 16, .int (am_x E (i + 1)), .int (am_x E (i + 2)), .ref 2637]) (st := []) (am_dec tmL_law_24 15 rfl) ok_L_undo (fun h => nomatch h) lmL_282 st_L_undo (cw_undo hE a1) rfl (by decide) (Nat.le_of_ble_eq_true rfl) hc hs rfl ?_
    refine am_istore (lv' := [(0, .ref 0), (1, .ref 16), (2, .ref 117), (3, .ref 2637), (4, .int (Int32.ofNat i)), (5, .int (0 : Int32))]) (am_dec tmL_law_24 16 rfl) (by decide) rfl ?_
    refine am_aload_n (am_dec tmL_law_24 17 rfl) rfl rfl ?_
    refine am_aload_n (am_dec tmL_law_24 18 rfl) rfl rfl ?_
    refine am_iload (am_dec tmL_law_24 19 rfl) rfl ?_
    refine am_iconst (v := (1 : Int32)) (am_dec tmL_law_24 20 rfl) (by decide) ?_
    refine am_iadd (am_dec tmL_law_24 21 rfl) ?_
    refine am_sld (j := i + 1) hE (am_dec tmL_law_24 22 rfl) (k_iz i 1) (by omega) hL ?_
    refine am_aload_n (am_dec tmL_law_24 23 rfl) rfl rfl ?_
    refine am_iload (am_dec tmL_law_24 24 rfl) rfl ?_
    refine am_iconst (v := (2 : Int32)) (am_dec tmL_law_24 25 rfl) (by decide) ?_
    refine am_iadd (am_dec tmL_law_24 26 rfl) ?_
    refine am_sld (j := i + 2) hE (am_dec tmL_law_24 27 rfl) (k_iz i 2) (by omega) hL ?_
    refine am_callV1 (As := [.int (am_x E (i + 1)), .int (am_x E (i + 2))]) (st := []) hE (am_dec tmL_law_24 28 rfl) ok_X12_undo rfl lmL_284 in_X12_undo se_X12_undo sh_117 cf12 (c_X12_undo hE a2) rfl (by decide) (Nat.le_of_ble_eq_true rfl) hc hs rfl ?_
    refine am_istore (lv' := [(0, .ref 0), (1, .ref 16), (2, .ref 117), (3, .ref 2637), (4, .int (Int32.ofNat i)), (5, .int (0 : Int32)), (6, .int v)]) (am_dec tmL_law_24 29 rfl) (by decide) rfl ?_
    refine am_aload_n (am_dec tmL_law_24 30 rfl) rfl rfl ?_
    refine am_callV1 (As := []) (st := []) hE (am_dec tmL_law_24 31 rfl) ok_X12_thrown rfl lmL_169 in_X12_thrown se_X12_thrown sh_117 cf12 (c_X12_thrown hE hth) rfl (by decide) (Nat.le_of_ble_eq_true rfl) hc hs rfl ?_
    refine am_iload (am_dec tmL_law_24 32 rfl) rfl ?_
    refine am_icmp_eq (tgt := 2446) (am_dec tmL_law_24 33 rfl) (by decide) (fun _ => ?_) (fun h => absurd rfl h)
    refine am_iload (am_dec tmL_law_24 36 rfl) rfl ?_
    refine am_if_ne (tgt := 2463) (am_dec tmL_law_24 37 rfl) (by decide) (fun h => absurd rfl h) (fun _ => ?_)
    refine am_aload_n (am_dec tmL_law_24 38 rfl) rfl rfl ?_
    refine am_iconst (v := (0 : Int32)) (am_dec tmL_law_24 39 rfl) (by decide) ?_
    refine am_lald2 (n := 1) (i := 0) (v := v.toInt64) hE (am_dec tmL_law_24 40 rfl) shq_2637 (hld.trans (congrArg some a5)) ?_
    refine am_iload (am_dec tmL_law_24 41 rfl) rfl ?_
    refine am_i2l (am_dec tmL_law_24 42 rfl) ?_
    refine am_lcmp (am_dec tmL_law_24 43 rfl) ?_
    refine am_if_eq (tgt := 2463) (am_dec tmL_law_24 44 rfl) (by decide) (fun _ => ?_) (fun h => absurd (k_cmp _) h)
    refine am_goto (tgt := 3717) (am_dec tmL_law_24 47 rfl) (by decide) ?_
    refine am_pick [0, 1, 2, 3, 4] rfl ?_
    exact k
  · rcases j with _ | _ | j
    · cases b0
      refine ⟨D2, b4, fun o G' D' k => ?_⟩
      have hth : f_X12_thrown D2 = some (Int32.ofNat 1) := by rw [← b3]; rfl
      refine am_aload_n (am_dec tmL_law_24 3 rfl) rfl rfl ?_
      refine am_aload_n (am_dec tmL_law_24 4 rfl) rfl rfl ?_
      refine am_iload (am_dec tmL_law_24 5 rfl) rfl ?_
      refine am_iconst (v := (1 : Int32)) (am_dec tmL_law_24 6 rfl) (by decide) ?_
      refine am_iadd (am_dec tmL_law_24 7 rfl) ?_
      refine am_sld (j := i + 1) hE (am_dec tmL_law_24 8 rfl) (k_iz i 1) (by omega) hL ?_
      refine am_aload_n (am_dec tmL_law_24 9 rfl) rfl rfl ?_
      refine am_iload (am_dec tmL_law_24 10 rfl) rfl ?_
      refine am_iconst (v := (2 : Int32)) (am_dec tmL_law_24 11 rfl) (by decide) ?_
      refine am_iadd (am_dec tmL_law_24 12 rfl) ?_
      refine am_sld (j := i + 2) hE (am_dec tmL_law_24 13 rfl) (k_iz i 2) (by omega) hL ?_
      refine am_aload_n (am_dec tmL_law_24 14 rfl) rfl rfl ?_
      refine am_callSH (As := [.ref 16, .int (am_x E (i + 1)), .int (am_x E (i + 2)), .ref 2637]) (st := []) (am_dec tmL_law_24 15 rfl) ok_L_undo (fun h => nomatch h) lmL_282 st_L_undo (xw_undo_1 hE b1) rfl (by decide) (Nat.le_of_ble_eq_true rfl) hc hs rfl ?_
      refine am_istore (lv' := [(0, .ref 0), (1, .ref 16), (2, .ref 117), (3, .ref 2637), (4, .int (Int32.ofNat i)), (5, .int (1 : Int32))]) (am_dec tmL_law_24 16 rfl) (by decide) rfl ?_
      refine am_aload_n (am_dec tmL_law_24 17 rfl) rfl rfl ?_
      refine am_aload_n (am_dec tmL_law_24 18 rfl) rfl rfl ?_
      refine am_iload (am_dec tmL_law_24 19 rfl) rfl ?_
      refine am_iconst (v := (1 : Int32)) (am_dec tmL_law_24 20 rfl) (by decide) ?_
      refine am_iadd (am_dec tmL_law_24 21 rfl) ?_
      refine am_sld (j := i + 1) hE (am_dec tmL_law_24 22 rfl) (k_iz i 1) (by omega) hL ?_
      refine am_aload_n (am_dec tmL_law_24 23 rfl) rfl rfl ?_
      refine am_iload (am_dec tmL_law_24 24 rfl) rfl ?_
      refine am_iconst (v := (2 : Int32)) (am_dec tmL_law_24 25 rfl) (by decide) ?_
      refine am_iadd (am_dec tmL_law_24 26 rfl) ?_
      refine am_sld (j := i + 2) hE (am_dec tmL_law_24 27 rfl) (k_iz i 2) (by omega) hL ?_
      refine am_callV1 (As := [.int (am_x E (i + 1)), .int (am_x E (i + 2))]) (st := []) hE (am_dec tmL_law_24 28 rfl) ok_X12_undo rfl lmL_284 in_X12_undo se_X12_undo sh_117 cf12 (c_X12_undo hE b2) rfl (by decide) (Nat.le_of_ble_eq_true rfl) hc hs rfl ?_
      refine am_istore (lv' := [(0, .ref 0), (1, .ref 16), (2, .ref 117), (3, .ref 2637), (4, .int (Int32.ofNat i)), (5, .int (1 : Int32)), (6, .int u)]) (am_dec tmL_law_24 29 rfl) (by decide) rfl ?_
      refine am_aload_n (am_dec tmL_law_24 30 rfl) rfl rfl ?_
      refine am_callV1 (As := []) (st := []) hE (am_dec tmL_law_24 31 rfl) ok_X12_thrown rfl lmL_169 in_X12_thrown se_X12_thrown sh_117 cf12 (c_X12_thrown hE hth) rfl (by decide) (Nat.le_of_ble_eq_true rfl) hc hs rfl ?_
      refine am_iload (am_dec tmL_law_24 32 rfl) rfl ?_
      refine am_icmp_eq (tgt := 2446) (am_dec tmL_law_24 33 rfl) (by decide) (fun _ => ?_) (fun h => absurd rfl h)
      refine am_iload (am_dec tmL_law_24 36 rfl) rfl ?_
      refine am_if_ne (tgt := 2463) (am_dec tmL_law_24 37 rfl) (by decide) (fun _ => ?_) (fun h => absurd h (by decide))
      refine am_goto (tgt := 3717) (am_dec tmL_law_24 47 rfl) (by decide) ?_
      refine am_pick [0, 1, 2, 3, 4] rfl ?_
      exact k
    · cases b0
      refine ⟨D2, b4, fun o G' D' k => ?_⟩
      have hth : f_X12_thrown D2 = some (Int32.ofNat 2) := by rw [← b3]; rfl
      refine am_aload_n (am_dec tmL_law_24 3 rfl) rfl rfl ?_
      refine am_aload_n (am_dec tmL_law_24 4 rfl) rfl rfl ?_
      refine am_iload (am_dec tmL_law_24 5 rfl) rfl ?_
      refine am_iconst (v := (1 : Int32)) (am_dec tmL_law_24 6 rfl) (by decide) ?_
      refine am_iadd (am_dec tmL_law_24 7 rfl) ?_
      refine am_sld (j := i + 1) hE (am_dec tmL_law_24 8 rfl) (k_iz i 1) (by omega) hL ?_
      refine am_aload_n (am_dec tmL_law_24 9 rfl) rfl rfl ?_
      refine am_iload (am_dec tmL_law_24 10 rfl) rfl ?_
      refine am_iconst (v := (2 : Int32)) (am_dec tmL_law_24 11 rfl) (by decide) ?_
      refine am_iadd (am_dec tmL_law_24 12 rfl) ?_
      refine am_sld (j := i + 2) hE (am_dec tmL_law_24 13 rfl) (k_iz i 2) (by omega) hL ?_
      refine am_aload_n (am_dec tmL_law_24 14 rfl) rfl rfl ?_
      refine am_callSH (As := [.ref 16, .int (am_x E (i + 1)), .int (am_x E (i + 2)), .ref 2637]) (st := []) (am_dec tmL_law_24 15 rfl) ok_L_undo (fun h => nomatch h) lmL_282 st_L_undo (xw_undo_2 hE b1) rfl (by decide) (Nat.le_of_ble_eq_true rfl) hc hs rfl ?_
      refine am_istore (lv' := [(0, .ref 0), (1, .ref 16), (2, .ref 117), (3, .ref 2637), (4, .int (Int32.ofNat i)), (5, .int (2 : Int32))]) (am_dec tmL_law_24 16 rfl) (by decide) rfl ?_
      refine am_aload_n (am_dec tmL_law_24 17 rfl) rfl rfl ?_
      refine am_aload_n (am_dec tmL_law_24 18 rfl) rfl rfl ?_
      refine am_iload (am_dec tmL_law_24 19 rfl) rfl ?_
      refine am_iconst (v := (1 : Int32)) (am_dec tmL_law_24 20 rfl) (by decide) ?_
      refine am_iadd (am_dec tmL_law_24 21 rfl) ?_
      refine am_sld (j := i + 1) hE (am_dec tmL_law_24 22 rfl) (k_iz i 1) (by omega) hL ?_
      refine am_aload_n (am_dec tmL_law_24 23 rfl) rfl rfl ?_
      refine am_iload (am_dec tmL_law_24 24 rfl) rfl ?_
      refine am_iconst (v := (2 : Int32)) (am_dec tmL_law_24 25 rfl) (by decide) ?_
      refine am_iadd (am_dec tmL_law_24 26 rfl) ?_
      refine am_sld (j := i + 2) hE (am_dec tmL_law_24 27 rfl) (k_iz i 2) (by omega) hL ?_
      refine am_callV1 (As := [.int (am_x E (i + 1)), .int (am_x E (i + 2))]) (st := []) hE (am_dec tmL_law_24 28 rfl) ok_X12_undo rfl lmL_284 in_X12_undo se_X12_undo sh_117 cf12 (c_X12_undo hE b2) rfl (by decide) (Nat.le_of_ble_eq_true rfl) hc hs rfl ?_
      refine am_istore (lv' := [(0, .ref 0), (1, .ref 16), (2, .ref 117), (3, .ref 2637), (4, .int (Int32.ofNat i)), (5, .int (2 : Int32)), (6, .int u)]) (am_dec tmL_law_24 29 rfl) (by decide) rfl ?_
      refine am_aload_n (am_dec tmL_law_24 30 rfl) rfl rfl ?_
      refine am_callV1 (As := []) (st := []) hE (am_dec tmL_law_24 31 rfl) ok_X12_thrown rfl lmL_169 in_X12_thrown se_X12_thrown sh_117 cf12 (c_X12_thrown hE hth) rfl (by decide) (Nat.le_of_ble_eq_true rfl) hc hs rfl ?_
      refine am_iload (am_dec tmL_law_24 32 rfl) rfl ?_
      refine am_icmp_eq (tgt := 2446) (am_dec tmL_law_24 33 rfl) (by decide) (fun _ => ?_) (fun h => absurd rfl h)
      refine am_iload (am_dec tmL_law_24 36 rfl) rfl ?_
      refine am_if_ne (tgt := 2463) (am_dec tmL_law_24 37 rfl) (by decide) (fun _ => ?_) (fun h => absurd h (by decide))
      refine am_goto (tgt := 3717) (am_dec tmL_law_24 47 rfl) (by decide) ?_
      refine am_pick [0, 1, 2, 3, 4] rfl ?_
      exact k
    · cases b0
set_option maxRecDepth 100000 in
set_option maxHeartbeats 4000000 in
theorem lw_wobble {E : am_E} (hE : am_EH E) {D : am_D} (q : k_Q D D) {mc ms cu su i : Nat} (hL : am_L E ≤ 3072) (hi : i + 6 ≤ am_L E) (hc : cu + 1 ≤ mc) (hs : su + 6 ≤ ms) : ∃ D1, k_Q D1 D1 ∧ ∀ (o : am_O) (G' : am_G) (D' : am_D), am_S E mL_law 12 mc ms o G' D' (cu + 1) (su + 6) 3717 [(0, .ref 0), (1, .ref 16), (2, .ref 117), (3, .ref 2637), (4, .int (Int32.ofNat i))] [] am_G0 D1 → am_S E mL_law 12 mc ms o G' D' cu su 2466 [(0, .ref 0), (1, .ref 16), (2, .ref 117), (3, .ref 2637), (4, .int (Int32.ofNat i))] [] am_G0 D := by
  rcases k_joinE (f1 := fun D => f_X11_wobble (am_x E (i + 1)) (am_x E (i + 2)) D) (f2 := fun D => f_X12_wobble (am_x E (i + 1)) (am_x E (i + 2)) D) (ex := ["java/util/NoSuchElementException", "java/lang/IllegalArgumentException"]) (fun v => v.toInt64) (fun D E9 h => op_wobble h (am_x E (i + 1)) (am_x E (i + 2))) q with ⟨D1, D2, v, a1, a2, a3, a4, a5⟩ | ⟨D1, D2, u, j, nm, b0, b1, b2, b3, b4⟩
  · refine ⟨D2, a4, fun o G' D' k => ?_⟩
    have hth : f_X12_thrown D2 = some (0 : Int32) := by rw [← a3]; rfl
    have hld : am_gL D2 2637 1 0 = some (D2.2 2637 0) := k_gl (k := 0) (by decide) (by decide)
    have hcu : ∀ _ : Unit, cu + 1 ≤ mc := fun _ => hc
    have hsu : ∀ _ : Unit, su + 6 ≤ ms := fun _ => hs
    refine am_aload_n (am_dec tmL_law_24 48 rfl) rfl rfl ?_
    refine am_aload_n (am_dec tmL_law_24 49 rfl) rfl rfl ?_
    refine am_iload (am_dec tmL_law_24 50 rfl) rfl ?_
    refine am_iconst (v := (1 : Int32)) (am_dec tmL_law_24 51 rfl) (by decide) ?_
    refine am_iadd (am_dec tmL_law_24 52 rfl) ?_
    refine am_sld (j := i + 1) hE (am_dec tmL_law_24 53 rfl) (k_iz i 1) (by omega) hL ?_
    refine am_aload_n (am_dec tmL_law_24 54 rfl) rfl rfl ?_
    refine am_iload (am_dec tmL_law_24 55 rfl) rfl ?_
    refine am_iconst (v := (2 : Int32)) (am_dec tmL_law_24 56 rfl) (by decide) ?_
    refine am_iadd (am_dec tmL_law_24 57 rfl) ?_
    refine am_sld (j := i + 2) hE (am_dec tmL_law_24 58 rfl) (k_iz i 2) (by omega) hL ?_
    refine am_aload_n (am_dec tmL_law_24 59 rfl) rfl rfl ?_
    refine am_callSH (As := [.ref 16, .int (am_x E (i + 1)), .int (am_x E (i + 2)), .ref 2637]) (st := []) (am_dec tmL_law_25 0 rfl) ok_L_wobble (fun h => nomatch h) lmL_285 st_L_wobble (cw_wobble hE a1) rfl (by decide) (Nat.le_of_ble_eq_true rfl) hc hs rfl ?_
    refine am_istore (lv' := [(0, .ref 0), (1, .ref 16), (2, .ref 117), (3, .ref 2637), (4, .int (Int32.ofNat i)), (5, .int (0 : Int32))]) (am_dec tmL_law_25 1 rfl) (by decide) rfl ?_
    refine am_aload_n (am_dec tmL_law_25 2 rfl) rfl rfl ?_
    refine am_aload_n (am_dec tmL_law_25 3 rfl) rfl rfl ?_
    refine am_iload (am_dec tmL_law_25 4 rfl) rfl ?_
    refine am_iconst (v := (1 : Int32)) (am_dec tmL_law_25 5 rfl) (by decide) ?_
    refine am_iadd (am_dec tmL_law_25 6 rfl) ?_
    refine am_sld (j := i + 1) hE (am_dec tmL_law_25 7 rfl) (k_iz i 1) (by omega) hL ?_
    refine am_aload_n (am_dec tmL_law_25 8 rfl) rfl rfl ?_
    refine am_iload (am_dec tmL_law_25 9 rfl) rfl ?_
    refine am_iconst (v := (2 : Int32)) (am_dec tmL_law_25 10 rfl) (by decide) ?_
    refine am_iadd (am_dec tmL_law_25 11 rfl) ?_
    refine am_sld (j := i + 2) hE (am_dec tmL_law_25 12 rfl) (k_iz i 2) (by omega) hL ?_
    refine am_callV1 (As := [.int (am_x E (i + 1)), .int (am_x E (i + 2))]) (st := []) hE (am_dec tmL_law_25 13 rfl) ok_X12_wobble rfl lmL_287 in_X12_wobble se_X12_wobble sh_117 cf12 (c_X12_wobble hE a2) rfl (by decide) (Nat.le_of_ble_eq_true rfl) hc hs rfl ?_
    refine am_istore (lv' := [(0, .ref 0), (1, .ref 16), (2, .ref 117), (3, .ref 2637), (4, .int (Int32.ofNat i)), (5, .int (0 : Int32)), (6, .int v)]) (am_dec tmL_law_25 14 rfl) (by decide) rfl ?_
    refine am_aload_n (am_dec tmL_law_25 15 rfl) rfl rfl ?_
    refine am_callV1 (As := []) (st := []) hE (am_dec tmL_law_25 16 rfl) ok_X12_thrown rfl lmL_169 in_X12_thrown se_X12_thrown sh_117 cf12 (c_X12_thrown hE hth) rfl (by decide) (Nat.le_of_ble_eq_true rfl) hc hs rfl ?_
    refine am_iload (am_dec tmL_law_25 17 rfl) rfl ?_
    refine am_icmp_eq (tgt := 2514) (am_dec tmL_law_25 18 rfl) (by decide) (fun _ => ?_) (fun h => absurd rfl h)
    refine am_iload (am_dec tmL_law_25 21 rfl) rfl ?_
    refine am_if_ne (tgt := 2531) (am_dec tmL_law_25 22 rfl) (by decide) (fun h => absurd rfl h) (fun _ => ?_)
    refine am_aload_n (am_dec tmL_law_25 23 rfl) rfl rfl ?_
    refine am_iconst (v := (0 : Int32)) (am_dec tmL_law_25 24 rfl) (by decide) ?_
    refine am_lald2 (n := 1) (i := 0) (v := v.toInt64) hE (am_dec tmL_law_25 25 rfl) shq_2637 (hld.trans (congrArg some a5)) ?_
    refine am_iload (am_dec tmL_law_25 26 rfl) rfl ?_
    refine am_i2l (am_dec tmL_law_25 27 rfl) ?_
    refine am_lcmp (am_dec tmL_law_25 28 rfl) ?_
    refine am_if_eq (tgt := 2531) (am_dec tmL_law_25 29 rfl) (by decide) (fun _ => ?_) (fun h => absurd (k_cmp _) h)
    refine am_goto (tgt := 3717) (am_dec tmL_law_25 32 rfl) (by decide) ?_
    refine am_pick [0, 1, 2, 3, 4] rfl ?_
    exact k
  · rcases j with _ | _ | j
    · cases b0
      refine ⟨D2, b4, fun o G' D' k => ?_⟩
      have hth : f_X12_thrown D2 = some (Int32.ofNat 1) := by rw [← b3]; rfl
      refine am_aload_n (am_dec tmL_law_24 48 rfl) rfl rfl ?_
      refine am_aload_n (am_dec tmL_law_24 49 rfl) rfl rfl ?_
      refine am_iload (am_dec tmL_law_24 50 rfl) rfl ?_
      refine am_iconst (v := (1 : Int32)) (am_dec tmL_law_24 51 rfl) (by decide) ?_
      refine am_iadd (am_dec tmL_law_24 52 rfl) ?_
      refine am_sld (j := i + 1) hE (am_dec tmL_law_24 53 rfl) (k_iz i 1) (by omega) hL ?_
      refine am_aload_n (am_dec tmL_law_24 54 rfl) rfl rfl ?_
      refine am_iload (am_dec tmL_law_24 55 rfl) rfl ?_
      refine am_iconst (v := (2 : Int32)) (am_dec tmL_law_24 56 rfl) (by decide) ?_
      refine am_iadd (am_dec tmL_law_24 57 rfl) ?_
      refine am_sld (j := i + 2) hE (am_dec tmL_law_24 58 rfl) (k_iz i 2) (by omega) hL ?_
      refine am_aload_n (am_dec tmL_law_24 59 rfl) rfl rfl ?_
      refine am_callSH (As := [.ref 16, .int (am_x E (i + 1)), .int (am_x E (i + 2)), .ref 2637]) (st := []) (am_dec tmL_law_25 0 rfl) ok_L_wobble (fun h => nomatch h) lmL_285 st_L_wobble (xw_wobble_1 hE b1) rfl (by decide) (Nat.le_of_ble_eq_true rfl) hc hs rfl ?_
      refine am_istore (lv' := [(0, .ref 0), (1, .ref 16), (2, .ref 117), (3, .ref 2637), (4, .int (Int32.ofNat i)), (5, .int (1 : Int32))]) (am_dec tmL_law_25 1 rfl) (by decide) rfl ?_
      refine am_aload_n (am_dec tmL_law_25 2 rfl) rfl rfl ?_
      refine am_aload_n (am_dec tmL_law_25 3 rfl) rfl rfl ?_
      refine am_iload (am_dec tmL_law_25 4 rfl) rfl ?_
      refine am_iconst (v := (1 : Int32)) (am_dec tmL_law_25 5 rfl) (by decide) ?_
      refine am_iadd (am_dec tmL_law_25 6 rfl) ?_
      refine am_sld (j := i + 1) hE (am_dec tmL_law_25 7 rfl) (k_iz i 1) (by omega) hL ?_
      refine am_aload_n (am_dec tmL_law_25 8 rfl) rfl rfl ?_
      refine am_iload (am_dec tmL_law_25 9 rfl) rfl ?_
      refine am_iconst (v := (2 : Int32)) (am_dec tmL_law_25 10 rfl) (by decide) ?_
      refine am_iadd (am_dec tmL_law_25 11 rfl) ?_
      refine am_sld (j := i + 2) hE (am_dec tmL_law_25 12 rfl) (k_iz i 2) (by omega) hL ?_
      refine am_callV1 (As := [.int (am_x E (i + 1)), .int (am_x E (i + 2))]) (st := []) hE (am_dec tmL_law_25 13 rfl) ok_X12_wobble rfl lmL_287 in_X12_wobble se_X12_wobble sh_117 cf12 (c_X12_wobble hE b2) rfl (by decide) (Nat.le_of_ble_eq_true rfl) hc hs rfl ?_
      refine am_istore (lv' := [(0, .ref 0), (1, .ref 16), (2, .ref 117), (3, .ref 2637), (4, .int (Int32.ofNat i)), (5, .int (1 : Int32)), (6, .int u)]) (am_dec tmL_law_25 14 rfl) (by decide) rfl ?_
      refine am_aload_n (am_dec tmL_law_25 15 rfl) rfl rfl ?_
      refine am_callV1 (As := []) (st := []) hE (am_dec tmL_law_25 16 rfl) ok_X12_thrown rfl lmL_169 in_X12_thrown se_X12_thrown sh_117 cf12 (c_X12_thrown hE hth) rfl (by decide) (Nat.le_of_ble_eq_true rfl) hc hs rfl ?_
      refine am_iload (am_dec tmL_law_25 17 rfl) rfl ?_
      refine am_icmp_eq (tgt := 2514) (am_dec tmL_law_25 18 rfl) (by decide) (fun _ => ?_) (fun h => absurd rfl h)
      refine am_iload (am_dec tmL_law_25 21 rfl) rfl ?_
      refine am_if_ne (tgt := 2531) (am_dec tmL_law_25 22 rfl) (by decide) (fun _ => ?_) (fun h => absurd h (by decide))
      refine am_goto (tgt := 3717) (am_dec tmL_law_25 32 rfl) (by decide) ?_
      refine am_pick [0, 1, 2, 3, 4] rfl ?_
      exact k
    · cases b0
      refine ⟨D2, b4, fun o G' D' k => ?_⟩
      have hth : f_X12_thrown D2 = some (Int32.ofNat 2) := by rw [← b3]; rfl
      refine am_aload_n (am_dec tmL_law_24 48 rfl) rfl rfl ?_
      refine am_aload_n (am_dec tmL_law_24 49 rfl) rfl rfl ?_
      refine am_iload (am_dec tmL_law_24 50 rfl) rfl ?_
      refine am_iconst (v := (1 : Int32)) (am_dec tmL_law_24 51 rfl) (by decide) ?_
      refine am_iadd (am_dec tmL_law_24 52 rfl) ?_
      refine am_sld (j := i + 1) hE (am_dec tmL_law_24 53 rfl) (k_iz i 1) (by omega) hL ?_
      refine am_aload_n (am_dec tmL_law_24 54 rfl) rfl rfl ?_
      refine am_iload (am_dec tmL_law_24 55 rfl) rfl ?_
      refine am_iconst (v := (2 : Int32)) (am_dec tmL_law_24 56 rfl) (by decide) ?_
      refine am_iadd (am_dec tmL_law_24 57 rfl) ?_
      refine am_sld (j := i + 2) hE (am_dec tmL_law_24 58 rfl) (k_iz i 2) (by omega) hL ?_
      refine am_aload_n (am_dec tmL_law_24 59 rfl) rfl rfl ?_
      refine am_callSH (As := [.ref 16, .int (am_x E (i + 1)), .int (am_x E (i + 2)), .ref 2637]) (st := []) (am_dec tmL_law_25 0 rfl) ok_L_wobble (fun h => nomatch h) lmL_285 st_L_wobble (xw_wobble_2 hE b1) rfl (by decide) (Nat.le_of_ble_eq_true rfl) hc hs rfl ?_
      refine am_istore (lv' := [(0, .ref 0), (1, .ref 16), (2, .ref 117), (3, .ref 2637), (4, .int (Int32.ofNat i)), (5, .int (2 : Int32))]) (am_dec tmL_law_25 1 rfl) (by decide) rfl ?_
      refine am_aload_n (am_dec tmL_law_25 2 rfl) rfl rfl ?_
      refine am_aload_n (am_dec tmL_law_25 3 rfl) rfl rfl ?_
      refine am_iload (am_dec tmL_law_25 4 rfl) rfl ?_
      refine am_iconst (v := (1 : Int32)) (am_dec tmL_law_25 5 rfl) (by decide) ?_
      refine am_iadd (am_dec tmL_law_25 6 rfl) ?_
      refine am_sld (j := i + 1) hE (am_dec tmL_law_25 7 rfl) (k_iz i 1) (by omega) hL ?_
      refine am_aload_n (am_dec tmL_law_25 8 rfl) rfl rfl ?_
      refine am_iload (am_dec tmL_law_25 9 rfl) rfl ?_
      refine am_iconst (v := (2 : Int32)) (am_dec tmL_law_25 10 rfl) (by decide) ?_
      refine am_iadd (am_dec tmL_law_25 11 rfl) ?_
      refine am_sld (j := i + 2) hE (am_dec tmL_law_25 12 rfl) (k_iz i 2) (by omega) hL ?_
      refine am_callV1 (As := [.int (am_x E (i + 1)), .int (am_x E (i + 2))]) (st := []) hE (am_dec tmL_law_25 13 rfl) ok_X12_wobble rfl lmL_287 in_X12_wobble se_X12_wobble sh_117 cf12 (c_X12_wobble hE b2) rfl (by decide) (Nat.le_of_ble_eq_true rfl) hc hs rfl ?_
      refine am_istore (lv' := [(0, .ref 0), (1, .ref 16), (2, .ref 117), (3, .ref 2637), (4, .int (Int32.ofNat i)), (5, .int (2 : Int32)), (6, .int u)]) (am_dec tmL_law_25 14 rfl) (by decide) rfl ?_
      refine am_aload_n (am_dec tmL_law_25 15 rfl) rfl rfl ?_
      refine am_callV1 (As := []) (st := []) hE (am_dec tmL_law_25 16 rfl) ok_X12_thrown rfl lmL_169 in_X12_thrown se_X12_thrown sh_117 cf12 (c_X12_thrown hE hth) rfl (by decide) (Nat.le_of_ble_eq_true rfl) hc hs rfl ?_
      refine am_iload (am_dec tmL_law_25 17 rfl) rfl ?_
      refine am_icmp_eq (tgt := 2514) (am_dec tmL_law_25 18 rfl) (by decide) (fun _ => ?_) (fun h => absurd rfl h)
      refine am_iload (am_dec tmL_law_25 21 rfl) rfl ?_
      refine am_if_ne (tgt := 2531) (am_dec tmL_law_25 22 rfl) (by decide) (fun _ => ?_) (fun h => absurd h (by decide))
      refine am_goto (tgt := 3717) (am_dec tmL_law_25 32 rfl) (by decide) ?_
      refine am_pick [0, 1, 2, 3, 4] rfl ?_
      exact k
    · cases b0
set_option maxRecDepth 100000 in
set_option maxHeartbeats 4000000 in
theorem lw_beat {E : am_E} (hE : am_EH E) {D : am_D} (q : k_Q D D) {mc ms cu su i : Nat} (hL : am_L E ≤ 3072) (hi : i + 6 ≤ am_L E) (hc : cu + 1 ≤ mc) (hs : su + 6 ≤ ms) : ∃ D1, k_Q D1 D1 ∧ ∀ (o : am_O) (G' : am_G) (D' : am_D), am_S E mL_law 12 mc ms o G' D' (cu + 1) (su + 6) 3717 [(0, .ref 0), (1, .ref 16), (2, .ref 117), (3, .ref 2637), (4, .int (Int32.ofNat i))] [] am_G0 D1 → am_S E mL_law 12 mc ms o G' D' cu su 2534 [(0, .ref 0), (1, .ref 16), (2, .ref 117), (3, .ref 2637), (4, .int (Int32.ofNat i))] [] am_G0 D := by
  rcases k_joinE (f1 := fun D => f_X11_beat (am_x E (i + 1)) (am_x E (i + 2)) D) (f2 := fun D => f_X12_beat (am_x E (i + 1)) (am_x E (i + 2)) D) (ex := ["java/util/NoSuchElementException", "java/lang/IllegalArgumentException"]) (fun v => v.toInt64) (fun D E9 h => op_beat h (am_x E (i + 1)) (am_x E (i + 2))) q with ⟨D1, D2, v, a1, a2, a3, a4, a5⟩ | ⟨D1, D2, u, j, nm, b0, b1, b2, b3, b4⟩
  · refine ⟨D2, a4, fun o G' D' k => ?_⟩
    have hth : f_X12_thrown D2 = some (0 : Int32) := by rw [← a3]; rfl
    have hld : am_gL D2 2637 1 0 = some (D2.2 2637 0) := k_gl (k := 0) (by decide) (by decide)
    have hcu : ∀ _ : Unit, cu + 1 ≤ mc := fun _ => hc
    have hsu : ∀ _ : Unit, su + 6 ≤ ms := fun _ => hs
    refine am_aload_n (am_dec tmL_law_25 33 rfl) rfl rfl ?_
    refine am_aload_n (am_dec tmL_law_25 34 rfl) rfl rfl ?_
    refine am_iload (am_dec tmL_law_25 35 rfl) rfl ?_
    refine am_iconst (v := (1 : Int32)) (am_dec tmL_law_25 36 rfl) (by decide) ?_
    refine am_iadd (am_dec tmL_law_25 37 rfl) ?_
    refine am_sld (j := i + 1) hE (am_dec tmL_law_25 38 rfl) (k_iz i 1) (by omega) hL ?_
    refine am_aload_n (am_dec tmL_law_25 39 rfl) rfl rfl ?_
    refine am_iload (am_dec tmL_law_25 40 rfl) rfl ?_
    refine am_iconst (v := (2 : Int32)) (am_dec tmL_law_25 41 rfl) (by decide) ?_
    refine am_iadd (am_dec tmL_law_25 42 rfl) ?_
    refine am_sld (j := i + 2) hE (am_dec tmL_law_25 43 rfl) (k_iz i 2) (by omega) hL ?_
    refine am_aload_n (am_dec tmL_law_25 44 rfl) rfl rfl ?_
    refine am_callSH (As := [.ref 16, .int (am_x E (i + 1)), .int (am_x E (i + 2)), .ref 2637]) (st := []) (am_dec tmL_law_25 45 rfl) ok_L_beat (fun h => nomatch h) lmL_288 st_L_beat (cw_beat hE a1) rfl (by decide) (Nat.le_of_ble_eq_true rfl) hc hs rfl ?_
    refine am_istore (lv' := [(0, .ref 0), (1, .ref 16), (2, .ref 117), (3, .ref 2637), (4, .int (Int32.ofNat i)), (5, .int (0 : Int32))]) (am_dec tmL_law_25 46 rfl) (by decide) rfl ?_
    refine am_aload_n (am_dec tmL_law_25 47 rfl) rfl rfl ?_
    refine am_aload_n (am_dec tmL_law_25 48 rfl) rfl rfl ?_
    refine am_iload (am_dec tmL_law_25 49 rfl) rfl ?_
    refine am_iconst (v := (1 : Int32)) (am_dec tmL_law_25 50 rfl) (by decide) ?_
    refine am_iadd (am_dec tmL_law_25 51 rfl) ?_
    refine am_sld (j := i + 1) hE (am_dec tmL_law_25 52 rfl) (k_iz i 1) (by omega) hL ?_
    refine am_aload_n (am_dec tmL_law_25 53 rfl) rfl rfl ?_
    refine am_iload (am_dec tmL_law_25 54 rfl) rfl ?_
    refine am_iconst (v := (2 : Int32)) (am_dec tmL_law_25 55 rfl) (by decide) ?_
    refine am_iadd (am_dec tmL_law_25 56 rfl) ?_
    refine am_sld (j := i + 2) hE (am_dec tmL_law_25 57 rfl) (k_iz i 2) (by omega) hL ?_
    refine am_callV1 (As := [.int (am_x E (i + 1)), .int (am_x E (i + 2))]) (st := []) hE (am_dec tmL_law_25 58 rfl) ok_X12_beat rfl lmL_290 in_X12_beat se_X12_beat sh_117 cf12 (c_X12_beat hE a2) rfl (by decide) (Nat.le_of_ble_eq_true rfl) hc hs rfl ?_
    refine am_istore (lv' := [(0, .ref 0), (1, .ref 16), (2, .ref 117), (3, .ref 2637), (4, .int (Int32.ofNat i)), (5, .int (0 : Int32)), (6, .int v)]) (am_dec tmL_law_25 59 rfl) (by decide) rfl ?_
    refine am_aload_n (am_dec tmL_law_26 0 rfl) rfl rfl ?_
    refine am_callV1 (As := []) (st := []) hE (am_dec tmL_law_26 1 rfl) ok_X12_thrown rfl lmL_169 in_X12_thrown se_X12_thrown sh_117 cf12 (c_X12_thrown hE hth) rfl (by decide) (Nat.le_of_ble_eq_true rfl) hc hs rfl ?_
    refine am_iload (am_dec tmL_law_26 2 rfl) rfl ?_
    refine am_icmp_eq (tgt := 2582) (am_dec tmL_law_26 3 rfl) (by decide) (fun _ => ?_) (fun h => absurd rfl h)
    refine am_iload (am_dec tmL_law_26 6 rfl) rfl ?_
    refine am_if_ne (tgt := 2599) (am_dec tmL_law_26 7 rfl) (by decide) (fun h => absurd rfl h) (fun _ => ?_)
    refine am_aload_n (am_dec tmL_law_26 8 rfl) rfl rfl ?_
    refine am_iconst (v := (0 : Int32)) (am_dec tmL_law_26 9 rfl) (by decide) ?_
    refine am_lald2 (n := 1) (i := 0) (v := v.toInt64) hE (am_dec tmL_law_26 10 rfl) shq_2637 (hld.trans (congrArg some a5)) ?_
    refine am_iload (am_dec tmL_law_26 11 rfl) rfl ?_
    refine am_i2l (am_dec tmL_law_26 12 rfl) ?_
    refine am_lcmp (am_dec tmL_law_26 13 rfl) ?_
    refine am_if_eq (tgt := 2599) (am_dec tmL_law_26 14 rfl) (by decide) (fun _ => ?_) (fun h => absurd (k_cmp _) h)
    refine am_goto (tgt := 3717) (am_dec tmL_law_26 17 rfl) (by decide) ?_
    refine am_pick [0, 1, 2, 3, 4] rfl ?_
    exact k
  · rcases j with _ | _ | j
    · cases b0
      refine ⟨D2, b4, fun o G' D' k => ?_⟩
      have hth : f_X12_thrown D2 = some (Int32.ofNat 1) := by rw [← b3]; rfl
      refine am_aload_n (am_dec tmL_law_25 33 rfl) rfl rfl ?_
      refine am_aload_n (am_dec tmL_law_25 34 rfl) rfl rfl ?_
      refine am_iload (am_dec tmL_law_25 35 rfl) rfl ?_
      refine am_iconst (v := (1 : Int32)) (am_dec tmL_law_25 36 rfl) (by decide) ?_
      refine am_iadd (am_dec tmL_law_25 37 rfl) ?_
      refine am_sld (j := i + 1) hE (am_dec tmL_law_25 38 rfl) (k_iz i 1) (by omega) hL ?_
      refine am_aload_n (am_dec tmL_law_25 39 rfl) rfl rfl ?_
      refine am_iload (am_dec tmL_law_25 40 rfl) rfl ?_
      refine am_iconst (v := (2 : Int32)) (am_dec tmL_law_25 41 rfl) (by decide) ?_
      refine am_iadd (am_dec tmL_law_25 42 rfl) ?_
      refine am_sld (j := i + 2) hE (am_dec tmL_law_25 43 rfl) (k_iz i 2) (by omega) hL ?_
      refine am_aload_n (am_dec tmL_law_25 44 rfl) rfl rfl ?_
      refine am_callSH (As := [.ref 16, .int (am_x E (i + 1)), .int (am_x E (i + 2)), .ref 2637]) (st := []) (am_dec tmL_law_25 45 rfl) ok_L_beat (fun h => nomatch h) lmL_288 st_L_beat (xw_beat_1 hE b1) rfl (by decide) (Nat.le_of_ble_eq_true rfl) hc hs rfl ?_
      refine am_istore (lv' := [(0, .ref 0), (1, .ref 16), (2, .ref 117), (3, .ref 2637), (4, .int (Int32.ofNat i)), (5, .int (1 : Int32))]) (am_dec tmL_law_25 46 rfl) (by decide) rfl ?_
      refine am_aload_n (am_dec tmL_law_25 47 rfl) rfl rfl ?_
      refine am_aload_n (am_dec tmL_law_25 48 rfl) rfl rfl ?_
      refine am_iload (am_dec tmL_law_25 49 rfl) rfl ?_
      refine am_iconst (v := (1 : Int32)) (am_dec tmL_law_25 50 rfl) (by decide) ?_
      refine am_iadd (am_dec tmL_law_25 51 rfl) ?_
      refine am_sld (j := i + 1) hE (am_dec tmL_law_25 52 rfl) (k_iz i 1) (by omega) hL ?_
      refine am_aload_n (am_dec tmL_law_25 53 rfl) rfl rfl ?_
      refine am_iload (am_dec tmL_law_25 54 rfl) rfl ?_
      refine am_iconst (v := (2 : Int32)) (am_dec tmL_law_25 55 rfl) (by decide) ?_
      refine am_iadd (am_dec tmL_law_25 56 rfl) ?_
      refine am_sld (j := i + 2) hE (am_dec tmL_law_25 57 rfl) (k_iz i 2) (by omega) hL ?_
      refine am_callV1 (As := [.int (am_x E (i + 1)), .int (am_x E (i + 2))]) (st := []) hE (am_dec tmL_law_25 58 rfl) ok_X12_beat rfl lmL_290 in_X12_beat se_X12_beat sh_117 cf12 (c_X12_beat hE b2) rfl (by decide) (Nat.le_of_ble_eq_true rfl) hc hs rfl ?_
      refine am_istore (lv' := [(0, .ref 0), (1, .ref 16), (2, .ref 117), (3, .ref 2637), (4, .int (Int32.ofNat i)), (5, .int (1 : Int32)), (6, .int u)]) (am_dec tmL_law_25 59 rfl) (by decide) rfl ?_
      refine am_aload_n (am_dec tmL_law_26 0 rfl) rfl rfl ?_
      refine am_callV1 (As := []) (st := []) hE (am_dec tmL_law_26 1 rfl) ok_X12_thrown rfl lmL_169 in_X12_thrown se_X12_thrown sh_117 cf12 (c_X12_thrown hE hth) rfl (by decide) (Nat.le_of_ble_eq_true rfl) hc hs rfl ?_
      refine am_iload (am_dec tmL_law_26 2 rfl) rfl ?_
      refine am_icmp_eq (tgt := 2582) (am_dec tmL_law_26 3 rfl) (by decide) (fun _ => ?_) (fun h => absurd rfl h)
      refine am_iload (am_dec tmL_law_26 6 rfl) rfl ?_
      refine am_if_ne (tgt := 2599) (am_dec tmL_law_26 7 rfl) (by decide) (fun _ => ?_) (fun h => absurd h (by decide))
      refine am_goto (tgt := 3717) (am_dec tmL_law_26 17 rfl) (by decide) ?_
      refine am_pick [0, 1, 2, 3, 4] rfl ?_
      exact k
    · cases b0
      refine ⟨D2, b4, fun o G' D' k => ?_⟩
      have hth : f_X12_thrown D2 = some (Int32.ofNat 2) := by rw [← b3]; rfl
      refine am_aload_n (am_dec tmL_law_25 33 rfl) rfl rfl ?_
      refine am_aload_n (am_dec tmL_law_25 34 rfl) rfl rfl ?_
      refine am_iload (am_dec tmL_law_25 35 rfl) rfl ?_
      refine am_iconst (v := (1 : Int32)) (am_dec tmL_law_25 36 rfl) (by decide) ?_
      refine am_iadd (am_dec tmL_law_25 37 rfl) ?_
      refine am_sld (j := i + 1) hE (am_dec tmL_law_25 38 rfl) (k_iz i 1) (by omega) hL ?_
      refine am_aload_n (am_dec tmL_law_25 39 rfl) rfl rfl ?_
      refine am_iload (am_dec tmL_law_25 40 rfl) rfl ?_
      refine am_iconst (v := (2 : Int32)) (am_dec tmL_law_25 41 rfl) (by decide) ?_
      refine am_iadd (am_dec tmL_law_25 42 rfl) ?_
      refine am_sld (j := i + 2) hE (am_dec tmL_law_25 43 rfl) (k_iz i 2) (by omega) hL ?_
      refine am_aload_n (am_dec tmL_law_25 44 rfl) rfl rfl ?_
      refine am_callSH (As := [.ref 16, .int (am_x E (i + 1)), .int (am_x E (i + 2)), .ref 2637]) (st := []) (am_dec tmL_law_25 45 rfl) ok_L_beat (fun h => nomatch h) lmL_288 st_L_beat (xw_beat_2 hE b1) rfl (by decide) (Nat.le_of_ble_eq_true rfl) hc hs rfl ?_
      refine am_istore (lv' := [(0, .ref 0), (1, .ref 16), (2, .ref 117), (3, .ref 2637), (4, .int (Int32.ofNat i)), (5, .int (2 : Int32))]) (am_dec tmL_law_25 46 rfl) (by decide) rfl ?_
      refine am_aload_n (am_dec tmL_law_25 47 rfl) rfl rfl ?_
      refine am_aload_n (am_dec tmL_law_25 48 rfl) rfl rfl ?_
      refine am_iload (am_dec tmL_law_25 49 rfl) rfl ?_
      refine am_iconst (v := (1 : Int32)) (am_dec tmL_law_25 50 rfl) (by decide) ?_
      refine am_iadd (am_dec tmL_law_25 51 rfl) ?_
      refine am_sld (j := i + 1) hE (am_dec tmL_law_25 52 rfl) (k_iz i 1) (by omega) hL ?_
      refine am_aload_n (am_dec tmL_law_25 53 rfl) rfl rfl ?_
      refine am_iload (am_dec tmL_law_25 54 rfl) rfl ?_
      refine am_iconst (v := (2 : Int32)) (am_dec tmL_law_25 55 rfl) (by decide) ?_
      refine am_iadd (am_dec tmL_law_25 56 rfl) ?_
      refine am_sld (j := i + 2) hE (am_dec tmL_law_25 57 rfl) (k_iz i 2) (by omega) hL ?_
      refine am_callV1 (As := [.int (am_x E (i + 1)), .int (am_x E (i + 2))]) (st := []) hE (am_dec tmL_law_25 58 rfl) ok_X12_beat rfl lmL_290 in_X12_beat se_X12_beat sh_117 cf12 (c_X12_beat hE b2) rfl (by decide) (Nat.le_of_ble_eq_true rfl) hc hs rfl ?_
      refine am_istore (lv' := [(0, .ref 0), (1, .ref 16), (2, .ref 117), (3, .ref 2637), (4, .int (Int32.ofNat i)), (5, .int (2 : Int32)), (6, .int u)]) (am_dec tmL_law_25 59 rfl) (by decide) rfl ?_
      refine am_aload_n (am_dec tmL_law_26 0 rfl) rfl rfl ?_
      refine am_callV1 (As := []) (st := []) hE (am_dec tmL_law_26 1 rfl) ok_X12_thrown rfl lmL_169 in_X12_thrown se_X12_thrown sh_117 cf12 (c_X12_thrown hE hth) rfl (by decide) (Nat.le_of_ble_eq_true rfl) hc hs rfl ?_
      refine am_iload (am_dec tmL_law_26 2 rfl) rfl ?_
      refine am_icmp_eq (tgt := 2582) (am_dec tmL_law_26 3 rfl) (by decide) (fun _ => ?_) (fun h => absurd rfl h)
      refine am_iload (am_dec tmL_law_26 6 rfl) rfl ?_
      refine am_if_ne (tgt := 2599) (am_dec tmL_law_26 7 rfl) (by decide) (fun _ => ?_) (fun h => absurd h (by decide))
      refine am_goto (tgt := 3717) (am_dec tmL_law_26 17 rfl) (by decide) ?_
      refine am_pick [0, 1, 2, 3, 4] rfl ?_
      exact k
    · cases b0
set_option maxRecDepth 100000 in
set_option maxHeartbeats 4000000 in
theorem lw_onto {E : am_E} (hE : am_EH E) {D : am_D} (q : k_Q D D) {mc ms cu su i : Nat} (hL : am_L E ≤ 3072) (hi : i + 6 ≤ am_L E) (hc : cu + 1 ≤ mc) (hs : su + 6 ≤ ms) : ∃ D1, k_Q D1 D1 ∧ ∀ (o : am_O) (G' : am_G) (D' : am_D), am_S E mL_law 12 mc ms o G' D' (cu + 1) (su + 6) 3717 [(0, .ref 0), (1, .ref 16), (2, .ref 117), (3, .ref 2637), (4, .int (Int32.ofNat i))] [] am_G0 D1 → am_S E mL_law 12 mc ms o G' D' cu su 2602 [(0, .ref 0), (1, .ref 16), (2, .ref 117), (3, .ref 2637), (4, .int (Int32.ofNat i))] [] am_G0 D := by
  rcases k_joinE (f1 := fun D => f_X11_onto (am_x E (i + 1)) (am_x E (i + 2)) D) (f2 := fun D => f_X12_onto (am_x E (i + 1)) (am_x E (i + 2)) D) (ex := ["java/util/NoSuchElementException", "java/lang/IllegalArgumentException"]) (fun v => v.toInt64) (fun D E9 h => op_onto h (am_x E (i + 1)) (am_x E (i + 2))) q with ⟨D1, D2, v, a1, a2, a3, a4, a5⟩ | ⟨D1, D2, u, j, nm, b0, b1, b2, b3, b4⟩
  · refine ⟨D2, a4, fun o G' D' k => ?_⟩
    have hth : f_X12_thrown D2 = some (0 : Int32) := by rw [← a3]; rfl
    have hld : am_gL D2 2637 1 0 = some (D2.2 2637 0) := k_gl (k := 0) (by decide) (by decide)
    have hcu : ∀ _ : Unit, cu + 1 ≤ mc := fun _ => hc
    have hsu : ∀ _ : Unit, su + 6 ≤ ms := fun _ => hs
    refine am_aload_n (am_dec tmL_law_26 18 rfl) rfl rfl ?_
    refine am_aload_n (am_dec tmL_law_26 19 rfl) rfl rfl ?_
    refine am_iload (am_dec tmL_law_26 20 rfl) rfl ?_
    refine am_iconst (v := (1 : Int32)) (am_dec tmL_law_26 21 rfl) (by decide) ?_
    refine am_iadd (am_dec tmL_law_26 22 rfl) ?_
    refine am_sld (j := i + 1) hE (am_dec tmL_law_26 23 rfl) (k_iz i 1) (by omega) hL ?_
    refine am_aload_n (am_dec tmL_law_26 24 rfl) rfl rfl ?_
    refine am_iload (am_dec tmL_law_26 25 rfl) rfl ?_
    refine am_iconst (v := (2 : Int32)) (am_dec tmL_law_26 26 rfl) (by decide) ?_
    refine am_iadd (am_dec tmL_law_26 27 rfl) ?_
    refine am_sld (j := i + 2) hE (am_dec tmL_law_26 28 rfl) (k_iz i 2) (by omega) hL ?_
    refine am_aload_n (am_dec tmL_law_26 29 rfl) rfl rfl ?_
    refine am_callSH (As := [.ref 16, .int (am_x E (i + 1)), .int (am_x E (i + 2)), .ref 2637]) (st := []) (am_dec tmL_law_26 30 rfl) ok_L_onto (fun h => nomatch h) lmL_291 st_L_onto (cw_onto hE a1) rfl (by decide) (Nat.le_of_ble_eq_true rfl) hc hs rfl ?_
    refine am_istore (lv' := [(0, .ref 0), (1, .ref 16), (2, .ref 117), (3, .ref 2637), (4, .int (Int32.ofNat i)), (5, .int (0 : Int32))]) (am_dec tmL_law_26 31 rfl) (by decide) rfl ?_
    refine am_aload_n (am_dec tmL_law_26 32 rfl) rfl rfl ?_
    refine am_aload_n (am_dec tmL_law_26 33 rfl) rfl rfl ?_
    refine am_iload (am_dec tmL_law_26 34 rfl) rfl ?_
    refine am_iconst (v := (1 : Int32)) (am_dec tmL_law_26 35 rfl) (by decide) ?_
    refine am_iadd (am_dec tmL_law_26 36 rfl) ?_
    refine am_sld (j := i + 1) hE (am_dec tmL_law_26 37 rfl) (k_iz i 1) (by omega) hL ?_
    refine am_aload_n (am_dec tmL_law_26 38 rfl) rfl rfl ?_
    refine am_iload (am_dec tmL_law_26 39 rfl) rfl ?_
    refine am_iconst (v := (2 : Int32)) (am_dec tmL_law_26 40 rfl) (by decide) ?_
    refine am_iadd (am_dec tmL_law_26 41 rfl) ?_
    refine am_sld (j := i + 2) hE (am_dec tmL_law_26 42 rfl) (k_iz i 2) (by omega) hL ?_
    refine am_callV1 (As := [.int (am_x E (i + 1)), .int (am_x E (i + 2))]) (st := []) hE (am_dec tmL_law_26 43 rfl) ok_X12_onto rfl lmL_293 in_X12_onto se_X12_onto sh_117 cf12 (c_X12_onto hE a2) rfl (by decide) (Nat.le_of_ble_eq_true rfl) hc hs rfl ?_
    refine am_istore (lv' := [(0, .ref 0), (1, .ref 16), (2, .ref 117), (3, .ref 2637), (4, .int (Int32.ofNat i)), (5, .int (0 : Int32)), (6, .int v)]) (am_dec tmL_law_26 44 rfl) (by decide) rfl ?_
    refine am_aload_n (am_dec tmL_law_26 45 rfl) rfl rfl ?_
    refine am_callV1 (As := []) (st := []) hE (am_dec tmL_law_26 46 rfl) ok_X12_thrown rfl lmL_169 in_X12_thrown se_X12_thrown sh_117 cf12 (c_X12_thrown hE hth) rfl (by decide) (Nat.le_of_ble_eq_true rfl) hc hs rfl ?_
    refine am_iload (am_dec tmL_law_26 47 rfl) rfl ?_
    refine am_icmp_eq (tgt := 2650) (am_dec tmL_law_26 48 rfl) (by decide) (fun _ => ?_) (fun h => absurd rfl h)
    refine am_iload (am_dec tmL_law_26 51 rfl) rfl ?_
    refine am_if_ne (tgt := 2667) (am_dec tmL_law_26 52 rfl) (by decide) (fun h => absurd rfl h) (fun _ => ?_)
    refine am_aload_n (am_dec tmL_law_26 53 rfl) rfl rfl ?_
    refine am_iconst (v := (0 : Int32)) (am_dec tmL_law_26 54 rfl) (by decide) ?_
    refine am_lald2 (n := 1) (i := 0) (v := v.toInt64) hE (am_dec tmL_law_26 55 rfl) shq_2637 (hld.trans (congrArg some a5)) ?_
    refine am_iload (am_dec tmL_law_26 56 rfl) rfl ?_
    refine am_i2l (am_dec tmL_law_26 57 rfl) ?_
    refine am_lcmp (am_dec tmL_law_26 58 rfl) ?_
    refine am_if_eq (tgt := 2667) (am_dec tmL_law_26 59 rfl) (by decide) (fun _ => ?_) (fun h => absurd (k_cmp _) h)
    refine am_goto (tgt := 3717) (am_dec tmL_law_27 2 rfl) (by decide) ?_
    refine am_pick [0, 1, 2, 3, 4] rfl ?_
    exact k
  · rcases j with _ | _ | j
    · cases b0
      refine ⟨D2, b4, fun o G' D' k => ?_⟩
      have hth : f_X12_thrown D2 = some (Int32.ofNat 1) := by rw [← b3]; rfl
      refine am_aload_n (am_dec tmL_law_26 18 rfl) rfl rfl ?_
      refine am_aload_n (am_dec tmL_law_26 19 rfl) rfl rfl ?_
      refine am_iload (am_dec tmL_law_26 20 rfl) rfl ?_
      refine am_iconst (v := (1 : Int32)) (am_dec tmL_law_26 21 rfl) (by decide) ?_
      refine am_iadd (am_dec tmL_law_26 22 rfl) ?_
      refine am_sld (j := i + 1) hE (am_dec tmL_law_26 23 rfl) (k_iz i 1) (by omega) hL ?_
      refine am_aload_n (am_dec tmL_law_26 24 rfl) rfl rfl ?_
      refine am_iload (am_dec tmL_law_26 25 rfl) rfl ?_
      refine am_iconst (v := (2 : Int32)) (am_dec tmL_law_26 26 rfl) (by decide) ?_
      refine am_iadd (am_dec tmL_law_26 27 rfl) ?_
      refine am_sld (j := i + 2) hE (am_dec tmL_law_26 28 rfl) (k_iz i 2) (by omega) hL ?_
      refine am_aload_n (am_dec tmL_law_26 29 rfl) rfl rfl ?_
      refine am_callSH (As := [.ref 16, .int (am_x E (i + 1)), .int (am_x E (i + 2)), .ref 2637]) (st := []) (am_dec tmL_law_26 30 rfl) ok_L_onto (fun h => nomatch h) lmL_291 st_L_onto (xw_onto_1 hE b1) rfl (by decide) (Nat.le_of_ble_eq_true rfl) hc hs rfl ?_
      refine am_istore (lv' := [(0, .ref 0), (1, .ref 16), (2, .ref 117), (3, .ref 2637), (4, .int (Int32.ofNat i)), (5, .int (1 : Int32))]) (am_dec tmL_law_26 31 rfl) (by decide) rfl ?_
      refine am_aload_n (am_dec tmL_law_26 32 rfl) rfl rfl ?_
      refine am_aload_n (am_dec tmL_law_26 33 rfl) rfl rfl ?_
      refine am_iload (am_dec tmL_law_26 34 rfl) rfl ?_
      refine am_iconst (v := (1 : Int32)) (am_dec tmL_law_26 35 rfl) (by decide) ?_
      refine am_iadd (am_dec tmL_law_26 36 rfl) ?_
      refine am_sld (j := i + 1) hE (am_dec tmL_law_26 37 rfl) (k_iz i 1) (by omega) hL ?_
      refine am_aload_n (am_dec tmL_law_26 38 rfl) rfl rfl ?_
      refine am_iload (am_dec tmL_law_26 39 rfl) rfl ?_
      refine am_iconst (v := (2 : Int32)) (am_dec tmL_law_26 40 rfl) (by decide) ?_
      refine am_iadd (am_dec tmL_law_26 41 rfl) ?_
      refine am_sld (j := i + 2) hE (am_dec tmL_law_26 42 rfl) (k_iz i 2) (by omega) hL ?_
      refine am_callV1 (As := [.int (am_x E (i + 1)), .int (am_x E (i + 2))]) (st := []) hE (am_dec tmL_law_26 43 rfl) ok_X12_onto rfl lmL_293 in_X12_onto se_X12_onto sh_117 cf12 (c_X12_onto hE b2) rfl (by decide) (Nat.le_of_ble_eq_true rfl) hc hs rfl ?_
      refine am_istore (lv' := [(0, .ref 0), (1, .ref 16), (2, .ref 117), (3, .ref 2637), (4, .int (Int32.ofNat i)), (5, .int (1 : Int32)), (6, .int u)]) (am_dec tmL_law_26 44 rfl) (by decide) rfl ?_
      refine am_aload_n (am_dec tmL_law_26 45 rfl) rfl rfl ?_
      refine am_callV1 (As := []) (st := []) hE (am_dec tmL_law_26 46 rfl) ok_X12_thrown rfl lmL_169 in_X12_thrown se_X12_thrown sh_117 cf12 (c_X12_thrown hE hth) rfl (by decide) (Nat.le_of_ble_eq_true rfl) hc hs rfl ?_
      refine am_iload (am_dec tmL_law_26 47 rfl) rfl ?_
      refine am_icmp_eq (tgt := 2650) (am_dec tmL_law_26 48 rfl) (by decide) (fun _ => ?_) (fun h => absurd rfl h)
      refine am_iload (am_dec tmL_law_26 51 rfl) rfl ?_
      refine am_if_ne (tgt := 2667) (am_dec tmL_law_26 52 rfl) (by decide) (fun _ => ?_) (fun h => absurd h (by decide))
      refine am_goto (tgt := 3717) (am_dec tmL_law_27 2 rfl) (by decide) ?_
      refine am_pick [0, 1, 2, 3, 4] rfl ?_
      exact k
    · cases b0
      refine ⟨D2, b4, fun o G' D' k => ?_⟩
      have hth : f_X12_thrown D2 = some (Int32.ofNat 2) := by rw [← b3]; rfl
      refine am_aload_n (am_dec tmL_law_26 18 rfl) rfl rfl ?_
      refine am_aload_n (am_dec tmL_law_26 19 rfl) rfl rfl ?_
      refine am_iload (am_dec tmL_law_26 20 rfl) rfl ?_
      refine am_iconst (v := (1 : Int32)) (am_dec tmL_law_26 21 rfl) (by decide) ?_
      refine am_iadd (am_dec tmL_law_26 22 rfl) ?_
      refine am_sld (j := i + 1) hE (am_dec tmL_law_26 23 rfl) (k_iz i 1) (by omega) hL ?_
      refine am_aload_n (am_dec tmL_law_26 24 rfl) rfl rfl ?_
      refine am_iload (am_dec tmL_law_26 25 rfl) rfl ?_
      refine am_iconst (v := (2 : Int32)) (am_dec tmL_law_26 26 rfl) (by decide) ?_
      refine am_iadd (am_dec tmL_law_26 27 rfl) ?_
      refine am_sld (j := i + 2) hE (am_dec tmL_law_26 28 rfl) (k_iz i 2) (by omega) hL ?_
      refine am_aload_n (am_dec tmL_law_26 29 rfl) rfl rfl ?_
      refine am_callSH (As := [.ref 16, .int (am_x E (i + 1)), .int (am_x E (i + 2)), .ref 2637]) (st := []) (am_dec tmL_law_26 30 rfl) ok_L_onto (fun h => nomatch h) lmL_291 st_L_onto (xw_onto_2 hE b1) rfl (by decide) (Nat.le_of_ble_eq_true rfl) hc hs rfl ?_
      refine am_istore (lv' := [(0, .ref 0), (1, .ref 16), (2, .ref 117), (3, .ref 2637), (4, .int (Int32.ofNat i)), (5, .int (2 : Int32))]) (am_dec tmL_law_26 31 rfl) (by decide) rfl ?_
      refine am_aload_n (am_dec tmL_law_26 32 rfl) rfl rfl ?_
      refine am_aload_n (am_dec tmL_law_26 33 rfl) rfl rfl ?_
      refine am_iload (am_dec tmL_law_26 34 rfl) rfl ?_
      refine am_iconst (v := (1 : Int32)) (am_dec tmL_law_26 35 rfl) (by decide) ?_
      refine am_iadd (am_dec tmL_law_26 36 rfl) ?_
      refine am_sld (j := i + 1) hE (am_dec tmL_law_26 37 rfl) (k_iz i 1) (by omega) hL ?_
      refine am_aload_n (am_dec tmL_law_26 38 rfl) rfl rfl ?_
      refine am_iload (am_dec tmL_law_26 39 rfl) rfl ?_
      refine am_iconst (v := (2 : Int32)) (am_dec tmL_law_26 40 rfl) (by decide) ?_
      refine am_iadd (am_dec tmL_law_26 41 rfl) ?_
      refine am_sld (j := i + 2) hE (am_dec tmL_law_26 42 rfl) (k_iz i 2) (by omega) hL ?_
      refine am_callV1 (As := [.int (am_x E (i + 1)), .int (am_x E (i + 2))]) (st := []) hE (am_dec tmL_law_26 43 rfl) ok_X12_onto rfl lmL_293 in_X12_onto se_X12_onto sh_117 cf12 (c_X12_onto hE b2) rfl (by decide) (Nat.le_of_ble_eq_true rfl) hc hs rfl ?_
      refine am_istore (lv' := [(0, .ref 0), (1, .ref 16), (2, .ref 117), (3, .ref 2637), (4, .int (Int32.ofNat i)), (5, .int (2 : Int32)), (6, .int u)]) (am_dec tmL_law_26 44 rfl) (by decide) rfl ?_
      refine am_aload_n (am_dec tmL_law_26 45 rfl) rfl rfl ?_
      refine am_callV1 (As := []) (st := []) hE (am_dec tmL_law_26 46 rfl) ok_X12_thrown rfl lmL_169 in_X12_thrown se_X12_thrown sh_117 cf12 (c_X12_thrown hE hth) rfl (by decide) (Nat.le_of_ble_eq_true rfl) hc hs rfl ?_
      refine am_iload (am_dec tmL_law_26 47 rfl) rfl ?_
      refine am_icmp_eq (tgt := 2650) (am_dec tmL_law_26 48 rfl) (by decide) (fun _ => ?_) (fun h => absurd rfl h)
      refine am_iload (am_dec tmL_law_26 51 rfl) rfl ?_
      refine am_if_ne (tgt := 2667) (am_dec tmL_law_26 52 rfl) (by decide) (fun _ => ?_) (fun h => absurd h (by decide))
      refine am_goto (tgt := 3717) (am_dec tmL_law_27 2 rfl) (by decide) ?_
      refine am_pick [0, 1, 2, 3, 4] rfl ?_
      exact k
    · cases b0
set_option maxRecDepth 100000 in
set_option maxHeartbeats 4000000 in
theorem lw_loop {E : am_E} (hE : am_EH E) {D : am_D} (q : k_Q D D) {mc ms cu su i : Nat} (hL : am_L E ≤ 3072) (hi : i + 6 ≤ am_L E) (hc : cu + 1 ≤ mc) (hs : su + 6 ≤ ms) : ∃ D1, k_Q D1 D1 ∧ ∀ (o : am_O) (G' : am_G) (D' : am_D), am_S E mL_law 12 mc ms o G' D' (cu + 1) (su + 6) 3717 [(0, .ref 0), (1, .ref 16), (2, .ref 117), (3, .ref 2637), (4, .int (Int32.ofNat i))] [] am_G0 D1 → am_S E mL_law 12 mc ms o G' D' cu su 2670 [(0, .ref 0), (1, .ref 16), (2, .ref 117), (3, .ref 2637), (4, .int (Int32.ofNat i))] [] am_G0 D := by
  rcases k_joinE (f1 := fun D => f_X11_loop (am_x E (i + 1)) (am_x E (i + 2)) (am_x E (i + 3)) D) (f2 := fun D => f_X12_loop (am_x E (i + 1)) (am_x E (i + 2)) (am_x E (i + 3)) D) (ex := ["java/util/NoSuchElementException", "java/lang/IllegalArgumentException"]) (fun v => v.toInt64) (fun D E9 h => op_loop h (am_x E (i + 1)) (am_x E (i + 2)) (am_x E (i + 3))) q with ⟨D1, D2, v, a1, a2, a3, a4, a5⟩ | ⟨D1, D2, u, j, nm, b0, b1, b2, b3, b4⟩
  · refine ⟨D2, a4, fun o G' D' k => ?_⟩
    have hth : f_X12_thrown D2 = some (0 : Int32) := by rw [← a3]; rfl
    have hld : am_gL D2 2637 1 0 = some (D2.2 2637 0) := k_gl (k := 0) (by decide) (by decide)
    have hcu : ∀ _ : Unit, cu + 1 ≤ mc := fun _ => hc
    have hsu : ∀ _ : Unit, su + 6 ≤ ms := fun _ => hs
    refine am_aload_n (am_dec tmL_law_27 3 rfl) rfl rfl ?_
    refine am_aload_n (am_dec tmL_law_27 4 rfl) rfl rfl ?_
    refine am_iload (am_dec tmL_law_27 5 rfl) rfl ?_
    refine am_iconst (v := (1 : Int32)) (am_dec tmL_law_27 6 rfl) (by decide) ?_
    refine am_iadd (am_dec tmL_law_27 7 rfl) ?_
    refine am_sld (j := i + 1) hE (am_dec tmL_law_27 8 rfl) (k_iz i 1) (by omega) hL ?_
    refine am_aload_n (am_dec tmL_law_27 9 rfl) rfl rfl ?_
    refine am_iload (am_dec tmL_law_27 10 rfl) rfl ?_
    refine am_iconst (v := (2 : Int32)) (am_dec tmL_law_27 11 rfl) (by decide) ?_
    refine am_iadd (am_dec tmL_law_27 12 rfl) ?_
    refine am_sld (j := i + 2) hE (am_dec tmL_law_27 13 rfl) (k_iz i 2) (by omega) hL ?_
    refine am_aload_n (am_dec tmL_law_27 14 rfl) rfl rfl ?_
    refine am_iload (am_dec tmL_law_27 15 rfl) rfl ?_
    refine am_iconst (v := (3 : Int32)) (am_dec tmL_law_27 16 rfl) (by decide) ?_
    refine am_iadd (am_dec tmL_law_27 17 rfl) ?_
    refine am_sld (j := i + 3) hE (am_dec tmL_law_27 18 rfl) (k_iz i 3) (by omega) hL ?_
    refine am_aload_n (am_dec tmL_law_27 19 rfl) rfl rfl ?_
    refine am_callSH (As := [.ref 16, .int (am_x E (i + 1)), .int (am_x E (i + 2)), .int (am_x E (i + 3)), .ref 2637]) (st := []) (am_dec tmL_law_27 20 rfl) ok_L_loop (fun h => nomatch h) lmL_294 st_L_loop (cw_loop hE a1) rfl (by decide) (Nat.le_of_ble_eq_true rfl) hc hs rfl ?_
    refine am_istore (lv' := [(0, .ref 0), (1, .ref 16), (2, .ref 117), (3, .ref 2637), (4, .int (Int32.ofNat i)), (5, .int (0 : Int32))]) (am_dec tmL_law_27 21 rfl) (by decide) rfl ?_
    refine am_aload_n (am_dec tmL_law_27 22 rfl) rfl rfl ?_
    refine am_aload_n (am_dec tmL_law_27 23 rfl) rfl rfl ?_
    refine am_iload (am_dec tmL_law_27 24 rfl) rfl ?_
    refine am_iconst (v := (1 : Int32)) (am_dec tmL_law_27 25 rfl) (by decide) ?_
    refine am_iadd (am_dec tmL_law_27 26 rfl) ?_
    refine am_sld (j := i + 1) hE (am_dec tmL_law_27 27 rfl) (k_iz i 1) (by omega) hL ?_
    refine am_aload_n (am_dec tmL_law_27 28 rfl) rfl rfl ?_
    refine am_iload (am_dec tmL_law_27 29 rfl) rfl ?_
    refine am_iconst (v := (2 : Int32)) (am_dec tmL_law_27 30 rfl) (by decide) ?_
    refine am_iadd (am_dec tmL_law_27 31 rfl) ?_
    refine am_sld (j := i + 2) hE (am_dec tmL_law_27 32 rfl) (k_iz i 2) (by omega) hL ?_
    refine am_aload_n (am_dec tmL_law_27 33 rfl) rfl rfl ?_
    refine am_iload (am_dec tmL_law_27 34 rfl) rfl ?_
    refine am_iconst (v := (3 : Int32)) (am_dec tmL_law_27 35 rfl) (by decide) ?_
    refine am_iadd (am_dec tmL_law_27 36 rfl) ?_
    refine am_sld (j := i + 3) hE (am_dec tmL_law_27 37 rfl) (k_iz i 3) (by omega) hL ?_
    refine am_callV1 (As := [.int (am_x E (i + 1)), .int (am_x E (i + 2)), .int (am_x E (i + 3))]) (st := []) hE (am_dec tmL_law_27 38 rfl) ok_X12_loop rfl lmL_296 in_X12_loop se_X12_loop sh_117 cf12 (c_X12_loop hE a2) rfl (by decide) (Nat.le_of_ble_eq_true rfl) hc hs rfl ?_
    refine am_istore (lv' := [(0, .ref 0), (1, .ref 16), (2, .ref 117), (3, .ref 2637), (4, .int (Int32.ofNat i)), (5, .int (0 : Int32)), (6, .int v)]) (am_dec tmL_law_27 39 rfl) (by decide) rfl ?_
    refine am_aload_n (am_dec tmL_law_27 40 rfl) rfl rfl ?_
    refine am_callV1 (As := []) (st := []) hE (am_dec tmL_law_27 41 rfl) ok_X12_thrown rfl lmL_169 in_X12_thrown se_X12_thrown sh_117 cf12 (c_X12_thrown hE hth) rfl (by decide) (Nat.le_of_ble_eq_true rfl) hc hs rfl ?_
    refine am_iload (am_dec tmL_law_27 42 rfl) rfl ?_
    refine am_icmp_eq (tgt := 2730) (am_dec tmL_law_27 43 rfl) (by decide) (fun _ => ?_) (fun h => absurd rfl h)
    refine am_iload (am_dec tmL_law_27 46 rfl) rfl ?_
    refine am_if_ne (tgt := 2747) (am_dec tmL_law_27 47 rfl) (by decide) (fun h => absurd rfl h) (fun _ => ?_)
    refine am_aload_n (am_dec tmL_law_27 48 rfl) rfl rfl ?_
    refine am_iconst (v := (0 : Int32)) (am_dec tmL_law_27 49 rfl) (by decide) ?_
    refine am_lald2 (n := 1) (i := 0) (v := v.toInt64) hE (am_dec tmL_law_27 50 rfl) shq_2637 (hld.trans (congrArg some a5)) ?_
    refine am_iload (am_dec tmL_law_27 51 rfl) rfl ?_
    refine am_i2l (am_dec tmL_law_27 52 rfl) ?_
    refine am_lcmp (am_dec tmL_law_27 53 rfl) ?_
    refine am_if_eq (tgt := 2747) (am_dec tmL_law_27 54 rfl) (by decide) (fun _ => ?_) (fun h => absurd (k_cmp _) h)
    refine am_goto (tgt := 3717) (am_dec tmL_law_27 57 rfl) (by decide) ?_
    refine am_pick [0, 1, 2, 3, 4] rfl ?_
    exact k
  · rcases j with _ | _ | j
    · cases b0
      refine ⟨D2, b4, fun o G' D' k => ?_⟩
      have hth : f_X12_thrown D2 = some (Int32.ofNat 1) := by rw [← b3]; rfl
      refine am_aload_n (am_dec tmL_law_27 3 rfl) rfl rfl ?_
      refine am_aload_n (am_dec tmL_law_27 4 rfl) rfl rfl ?_
      refine am_iload (am_dec tmL_law_27 5 rfl) rfl ?_
      refine am_iconst (v := (1 : Int32)) (am_dec tmL_law_27 6 rfl) (by decide) ?_
      refine am_iadd (am_dec tmL_law_27 7 rfl) ?_
      refine am_sld (j := i + 1) hE (am_dec tmL_law_27 8 rfl) (k_iz i 1) (by omega) hL ?_
      refine am_aload_n (am_dec tmL_law_27 9 rfl) rfl rfl ?_
      refine am_iload (am_dec tmL_law_27 10 rfl) rfl ?_
      refine am_iconst (v := (2 : Int32)) (am_dec tmL_law_27 11 rfl) (by decide) ?_
      refine am_iadd (am_dec tmL_law_27 12 rfl) ?_
      refine am_sld (j := i + 2) hE (am_dec tmL_law_27 13 rfl) (k_iz i 2) (by omega) hL ?_
      refine am_aload_n (am_dec tmL_law_27 14 rfl) rfl rfl ?_
      refine am_iload (am_dec tmL_law_27 15 rfl) rfl ?_
      refine am_iconst (v := (3 : Int32)) (am_dec tmL_law_27 16 rfl) (by decide) ?_
      refine am_iadd (am_dec tmL_law_27 17 rfl) ?_
      refine am_sld (j := i + 3) hE (am_dec tmL_law_27 18 rfl) (k_iz i 3) (by omega) hL ?_
      refine am_aload_n (am_dec tmL_law_27 19 rfl) rfl rfl ?_
      refine am_callSH (As := [.ref 16, .int (am_x E (i + 1)), .int (am_x E (i + 2)), .int (am_x E (i + 3)), .ref 2637]) (st := []) (am_dec tmL_law_27 20 rfl) ok_L_loop (fun h => nomatch h) lmL_294 st_L_loop (xw_loop_1 hE b1) rfl (by decide) (Nat.le_of_ble_eq_true rfl) hc hs rfl ?_
      refine am_istore (lv' := [(0, .ref 0), (1, .ref 16), (2, .ref 117), (3, .ref 2637), (4, .int (Int32.ofNat i)), (5, .int (1 : Int32))]) (am_dec tmL_law_27 21 rfl) (by decide) rfl ?_
      refine am_aload_n (am_dec tmL_law_27 22 rfl) rfl rfl ?_
      refine am_aload_n (am_dec tmL_law_27 23 rfl) rfl rfl ?_
      refine am_iload (am_dec tmL_law_27 24 rfl) rfl ?_
      refine am_iconst (v := (1 : Int32)) (am_dec tmL_law_27 25 rfl) (by decide) ?_
      refine am_iadd (am_dec tmL_law_27 26 rfl) ?_
      refine am_sld (j := i + 1) hE (am_dec tmL_law_27 27 rfl) (k_iz i 1) (by omega) hL ?_
      refine am_aload_n (am_dec tmL_law_27 28 rfl) rfl rfl ?_
      refine am_iload (am_dec tmL_law_27 29 rfl) rfl ?_
      refine am_iconst (v := (2 : Int32)) (am_dec tmL_law_27 30 rfl) (by decide) ?_
      refine am_iadd (am_dec tmL_law_27 31 rfl) ?_
      refine am_sld (j := i + 2) hE (am_dec tmL_law_27 32 rfl) (k_iz i 2) (by omega) hL ?_
      refine am_aload_n (am_dec tmL_law_27 33 rfl) rfl rfl ?_
      refine am_iload (am_dec tmL_law_27 34 rfl) rfl ?_
      refine am_iconst (v := (3 : Int32)) (am_dec tmL_law_27 35 rfl) (by decide) ?_
      refine am_iadd (am_dec tmL_law_27 36 rfl) ?_
      refine am_sld (j := i + 3) hE (am_dec tmL_law_27 37 rfl) (k_iz i 3) (by omega) hL ?_
      refine am_callV1 (As := [.int (am_x E (i + 1)), .int (am_x E (i + 2)), .int (am_x E (i + 3))]) (st := []) hE (am_dec tmL_law_27 38 rfl) ok_X12_loop rfl lmL_296 in_X12_loop se_X12_loop sh_117 cf12 (c_X12_loop hE b2) rfl (by decide) (Nat.le_of_ble_eq_true rfl) hc hs rfl ?_
      refine am_istore (lv' := [(0, .ref 0), (1, .ref 16), (2, .ref 117), (3, .ref 2637), (4, .int (Int32.ofNat i)), (5, .int (1 : Int32)), (6, .int u)]) (am_dec tmL_law_27 39 rfl) (by decide) rfl ?_
      refine am_aload_n (am_dec tmL_law_27 40 rfl) rfl rfl ?_
      refine am_callV1 (As := []) (st := []) hE (am_dec tmL_law_27 41 rfl) ok_X12_thrown rfl lmL_169 in_X12_thrown se_X12_thrown sh_117 cf12 (c_X12_thrown hE hth) rfl (by decide) (Nat.le_of_ble_eq_true rfl) hc hs rfl ?_
      refine am_iload (am_dec tmL_law_27 42 rfl) rfl ?_
      refine am_icmp_eq (tgt := 2730) (am_dec tmL_law_27 43 rfl) (by decide) (fun _ => ?_) (fun h => absurd rfl h)
      refine am_iload (am_dec tmL_law_27 46 rfl) rfl ?_
      refine am_if_ne (tgt := 2747) (am_dec tmL_law_27 47 rfl) (by decide) (fun _ => ?_) (fun h => absurd h (by decide))
      refine am_goto (tgt := 3717) (am_dec tmL_law_27 57 rfl) (by decide) ?_
      refine am_pick [0, 1, 2, 3, 4] rfl ?_
      exact k
    · cases b0
      refine ⟨D2, b4, fun o G' D' k => ?_⟩
      have hth : f_X12_thrown D2 = some (Int32.ofNat 2) := by rw [← b3]; rfl
      refine am_aload_n (am_dec tmL_law_27 3 rfl) rfl rfl ?_
      refine am_aload_n (am_dec tmL_law_27 4 rfl) rfl rfl ?_
      refine am_iload (am_dec tmL_law_27 5 rfl) rfl ?_
      refine am_iconst (v := (1 : Int32)) (am_dec tmL_law_27 6 rfl) (by decide) ?_
      refine am_iadd (am_dec tmL_law_27 7 rfl) ?_
      refine am_sld (j := i + 1) hE (am_dec tmL_law_27 8 rfl) (k_iz i 1) (by omega) hL ?_
      refine am_aload_n (am_dec tmL_law_27 9 rfl) rfl rfl ?_
      refine am_iload (am_dec tmL_law_27 10 rfl) rfl ?_
      refine am_iconst (v := (2 : Int32)) (am_dec tmL_law_27 11 rfl) (by decide) ?_
      refine am_iadd (am_dec tmL_law_27 12 rfl) ?_
      refine am_sld (j := i + 2) hE (am_dec tmL_law_27 13 rfl) (k_iz i 2) (by omega) hL ?_
      refine am_aload_n (am_dec tmL_law_27 14 rfl) rfl rfl ?_
      refine am_iload (am_dec tmL_law_27 15 rfl) rfl ?_
      refine am_iconst (v := (3 : Int32)) (am_dec tmL_law_27 16 rfl) (by decide) ?_
      refine am_iadd (am_dec tmL_law_27 17 rfl) ?_
      refine am_sld (j := i + 3) hE (am_dec tmL_law_27 18 rfl) (k_iz i 3) (by omega) hL ?_
      refine am_aload_n (am_dec tmL_law_27 19 rfl) rfl rfl ?_
      refine am_callSH (As := [.ref 16, .int (am_x E (i + 1)), .int (am_x E (i + 2)), .int (am_x E (i + 3)), .ref 2637]) (st := []) (am_dec tmL_law_27 20 rfl) ok_L_loop (fun h => nomatch h) lmL_294 st_L_loop (xw_loop_2 hE b1) rfl (by decide) (Nat.le_of_ble_eq_true rfl) hc hs rfl ?_
      refine am_istore (lv' := [(0, .ref 0), (1, .ref 16), (2, .ref 117), (3, .ref 2637), (4, .int (Int32.ofNat i)), (5, .int (2 : Int32))]) (am_dec tmL_law_27 21 rfl) (by decide) rfl ?_
      refine am_aload_n (am_dec tmL_law_27 22 rfl) rfl rfl ?_
      refine am_aload_n (am_dec tmL_law_27 23 rfl) rfl rfl ?_
      refine am_iload (am_dec tmL_law_27 24 rfl) rfl ?_
      refine am_iconst (v := (1 : Int32)) (am_dec tmL_law_27 25 rfl) (by decide) ?_
      refine am_iadd (am_dec tmL_law_27 26 rfl) ?_
      refine am_sld (j := i + 1) hE (am_dec tmL_law_27 27 rfl) (k_iz i 1) (by omega) hL ?_
      refine am_aload_n (am_dec tmL_law_27 28 rfl) rfl rfl ?_
      refine am_iload (am_dec tmL_law_27 29 rfl) rfl ?_
      refine am_iconst (v := (2 : Int32)) (am_dec tmL_law_27 30 rfl) (by decide) ?_
      refine am_iadd (am_dec tmL_law_27 31 rfl) ?_
      refine am_sld (j := i + 2) hE (am_dec tmL_law_27 32 rfl) (k_iz i 2) (by omega) hL ?_
      refine am_aload_n (am_dec tmL_law_27 33 rfl) rfl rfl ?_
      refine am_iload (am_dec tmL_law_27 34 rfl) rfl ?_
      refine am_iconst (v := (3 : Int32)) (am_dec tmL_law_27 35 rfl) (by decide) ?_
      refine am_iadd (am_dec tmL_law_27 36 rfl) ?_
      refine am_sld (j := i + 3) hE (am_dec tmL_law_27 37 rfl) (k_iz i 3) (by omega) hL ?_
      refine am_callV1 (As := [.int (am_x E (i + 1)), .int (am_x E (i + 2)), .int (am_x E (i + 3))]) (st := []) hE (am_dec tmL_law_27 38 rfl) ok_X12_loop rfl lmL_296 in_X12_loop se_X12_loop sh_117 cf12 (c_X12_loop hE b2) rfl (by decide) (Nat.le_of_ble_eq_true rfl) hc hs rfl ?_
      refine am_istore (lv' := [(0, .ref 0), (1, .ref 16), (2, .ref 117), (3, .ref 2637), (4, .int (Int32.ofNat i)), (5, .int (2 : Int32)), (6, .int u)]) (am_dec tmL_law_27 39 rfl) (by decide) rfl ?_
      refine am_aload_n (am_dec tmL_law_27 40 rfl) rfl rfl ?_
      refine am_callV1 (As := []) (st := []) hE (am_dec tmL_law_27 41 rfl) ok_X12_thrown rfl lmL_169 in_X12_thrown se_X12_thrown sh_117 cf12 (c_X12_thrown hE hth) rfl (by decide) (Nat.le_of_ble_eq_true rfl) hc hs rfl ?_
      refine am_iload (am_dec tmL_law_27 42 rfl) rfl ?_
      refine am_icmp_eq (tgt := 2730) (am_dec tmL_law_27 43 rfl) (by decide) (fun _ => ?_) (fun h => absurd rfl h)
      refine am_iload (am_dec tmL_law_27 46 rfl) rfl ?_
      refine am_if_ne (tgt := 2747) (am_dec tmL_law_27 47 rfl) (by decide) (fun _ => ?_) (fun h => absurd h (by decide))
      refine am_goto (tgt := 3717) (am_dec tmL_law_27 57 rfl) (by decide) ?_
      refine am_pick [0, 1, 2, 3, 4] rfl ?_
      exact k
    · cases b0
set_option maxRecDepth 100000 in
set_option maxHeartbeats 4000000 in
theorem lw_join {E : am_E} (hE : am_EH E) {D : am_D} (q : k_Q D D) {mc ms cu su i : Nat} (hL : am_L E ≤ 3072) (hi : i + 6 ≤ am_L E) (hc : cu + 1 ≤ mc) (hs : su + 6 ≤ ms) : ∃ D1, k_Q D1 D1 ∧ ∀ (o : am_O) (G' : am_G) (D' : am_D), am_S E mL_law 12 mc ms o G' D' (cu + 1) (su + 6) 3717 [(0, .ref 0), (1, .ref 16), (2, .ref 117), (3, .ref 2637), (4, .int (Int32.ofNat i))] [] am_G0 D1 → am_S E mL_law 12 mc ms o G' D' cu su 2750 [(0, .ref 0), (1, .ref 16), (2, .ref 117), (3, .ref 2637), (4, .int (Int32.ofNat i))] [] am_G0 D := by
  rcases k_joinE (f1 := fun D => f_X11_join (am_x E (i + 1)) (am_x E (i + 2)) D) (f2 := fun D => f_X12_join (am_x E (i + 1)) (am_x E (i + 2)) D) (ex := ["java/util/NoSuchElementException"]) (fun v => v.toInt64) (fun D E9 h => op_join h (am_x E (i + 1)) (am_x E (i + 2))) q with ⟨D1, D2, v, a1, a2, a3, a4, a5⟩ | ⟨D1, D2, u, j, nm, b0, b1, b2, b3, b4⟩
  · refine ⟨D2, a4, fun o G' D' k => ?_⟩
    have hth : f_X12_thrown D2 = some (0 : Int32) := by rw [← a3]; rfl
    have hld : am_gL D2 2637 1 0 = some (D2.2 2637 0) := k_gl (k := 0) (by decide) (by decide)
    have hcu : ∀ _ : Unit, cu + 1 ≤ mc := fun _ => hc
    have hsu : ∀ _ : Unit, su + 6 ≤ ms := fun _ => hs
    refine am_aload_n (am_dec tmL_law_27 58 rfl) rfl rfl ?_
    refine am_aload_n (am_dec tmL_law_27 59 rfl) rfl rfl ?_
    refine am_iload (am_dec tmL_law_28 0 rfl) rfl ?_
    refine am_iconst (v := (1 : Int32)) (am_dec tmL_law_28 1 rfl) (by decide) ?_
    refine am_iadd (am_dec tmL_law_28 2 rfl) ?_
    refine am_sld (j := i + 1) hE (am_dec tmL_law_28 3 rfl) (k_iz i 1) (by omega) hL ?_
    refine am_aload_n (am_dec tmL_law_28 4 rfl) rfl rfl ?_
    refine am_iload (am_dec tmL_law_28 5 rfl) rfl ?_
    refine am_iconst (v := (2 : Int32)) (am_dec tmL_law_28 6 rfl) (by decide) ?_
    refine am_iadd (am_dec tmL_law_28 7 rfl) ?_
    refine am_sld (j := i + 2) hE (am_dec tmL_law_28 8 rfl) (k_iz i 2) (by omega) hL ?_
    refine am_aload_n (am_dec tmL_law_28 9 rfl) rfl rfl ?_
    refine am_callSH (As := [.ref 16, .int (am_x E (i + 1)), .int (am_x E (i + 2)), .ref 2637]) (st := []) (am_dec tmL_law_28 10 rfl) ok_L_join (fun h => nomatch h) lmL_297 st_L_join (cw_join hE a1) rfl (by decide) (Nat.le_of_ble_eq_true rfl) hc hs rfl ?_
    refine am_istore (lv' := [(0, .ref 0), (1, .ref 16), (2, .ref 117), (3, .ref 2637), (4, .int (Int32.ofNat i)), (5, .int (0 : Int32))]) (am_dec tmL_law_28 11 rfl) (by decide) rfl ?_
    refine am_aload_n (am_dec tmL_law_28 12 rfl) rfl rfl ?_
    refine am_aload_n (am_dec tmL_law_28 13 rfl) rfl rfl ?_
    refine am_iload (am_dec tmL_law_28 14 rfl) rfl ?_
    refine am_iconst (v := (1 : Int32)) (am_dec tmL_law_28 15 rfl) (by decide) ?_
    refine am_iadd (am_dec tmL_law_28 16 rfl) ?_
    refine am_sld (j := i + 1) hE (am_dec tmL_law_28 17 rfl) (k_iz i 1) (by omega) hL ?_
    refine am_aload_n (am_dec tmL_law_28 18 rfl) rfl rfl ?_
    refine am_iload (am_dec tmL_law_28 19 rfl) rfl ?_
    refine am_iconst (v := (2 : Int32)) (am_dec tmL_law_28 20 rfl) (by decide) ?_
    refine am_iadd (am_dec tmL_law_28 21 rfl) ?_
    refine am_sld (j := i + 2) hE (am_dec tmL_law_28 22 rfl) (k_iz i 2) (by omega) hL ?_
    refine am_callV1 (As := [.int (am_x E (i + 1)), .int (am_x E (i + 2))]) (st := []) hE (am_dec tmL_law_28 23 rfl) ok_X12_join rfl lmL_299 in_X12_join se_X12_join sh_117 cf12 (c_X12_join hE a2) rfl (by decide) (Nat.le_of_ble_eq_true rfl) hc hs rfl ?_
    refine am_istore (lv' := [(0, .ref 0), (1, .ref 16), (2, .ref 117), (3, .ref 2637), (4, .int (Int32.ofNat i)), (5, .int (0 : Int32)), (6, .int v)]) (am_dec tmL_law_28 24 rfl) (by decide) rfl ?_
    refine am_aload_n (am_dec tmL_law_28 25 rfl) rfl rfl ?_
    refine am_callV1 (As := []) (st := []) hE (am_dec tmL_law_28 26 rfl) ok_X12_thrown rfl lmL_169 in_X12_thrown se_X12_thrown sh_117 cf12 (c_X12_thrown hE hth) rfl (by decide) (Nat.le_of_ble_eq_true rfl) hc hs rfl ?_
    refine am_iload (am_dec tmL_law_28 27 rfl) rfl ?_
    refine am_icmp_eq (tgt := 2798) (am_dec tmL_law_28 28 rfl) (by decide) (fun _ => ?_) (fun h => absurd rfl h)
    refine am_iload (am_dec tmL_law_28 31 rfl) rfl ?_
    refine am_if_ne (tgt := 2815) (am_dec tmL_law_28 32 rfl) (by decide) (fun h => absurd rfl h) (fun _ => ?_)
    refine am_aload_n (am_dec tmL_law_28 33 rfl) rfl rfl ?_
    refine am_iconst (v := (0 : Int32)) (am_dec tmL_law_28 34 rfl) (by decide) ?_
    refine am_lald2 (n := 1) (i := 0) (v := v.toInt64) hE (am_dec tmL_law_28 35 rfl) shq_2637 (hld.trans (congrArg some a5)) ?_
    refine am_iload (am_dec tmL_law_28 36 rfl) rfl ?_
    refine am_i2l (am_dec tmL_law_28 37 rfl) ?_
    refine am_lcmp (am_dec tmL_law_28 38 rfl) ?_
    refine am_if_eq (tgt := 2815) (am_dec tmL_law_28 39 rfl) (by decide) (fun _ => ?_) (fun h => absurd (k_cmp _) h)
    refine am_goto (tgt := 3717) (am_dec tmL_law_28 42 rfl) (by decide) ?_
    refine am_pick [0, 1, 2, 3, 4] rfl ?_
    exact k
  · rcases j with _ | j
    · cases b0
      refine ⟨D2, b4, fun o G' D' k => ?_⟩
      have hth : f_X12_thrown D2 = some (Int32.ofNat 1) := by rw [← b3]; rfl
      refine am_aload_n (am_dec tmL_law_27 58 rfl) rfl rfl ?_
      refine am_aload_n (am_dec tmL_law_27 59 rfl) rfl rfl ?_
      refine am_iload (am_dec tmL_law_28 0 rfl) rfl ?_
      refine am_iconst (v := (1 : Int32)) (am_dec tmL_law_28 1 rfl) (by decide) ?_
      refine am_iadd (am_dec tmL_law_28 2 rfl) ?_
      refine am_sld (j := i + 1) hE (am_dec tmL_law_28 3 rfl) (k_iz i 1) (by omega) hL ?_
      refine am_aload_n (am_dec tmL_law_28 4 rfl) rfl rfl ?_
      refine am_iload (am_dec tmL_law_28 5 rfl) rfl ?_
      refine am_iconst (v := (2 : Int32)) (am_dec tmL_law_28 6 rfl) (by decide) ?_
      refine am_iadd (am_dec tmL_law_28 7 rfl) ?_
      refine am_sld (j := i + 2) hE (am_dec tmL_law_28 8 rfl) (k_iz i 2) (by omega) hL ?_
      refine am_aload_n (am_dec tmL_law_28 9 rfl) rfl rfl ?_
      refine am_callSH (As := [.ref 16, .int (am_x E (i + 1)), .int (am_x E (i + 2)), .ref 2637]) (st := []) (am_dec tmL_law_28 10 rfl) ok_L_join (fun h => nomatch h) lmL_297 st_L_join (xw_join_1 hE b1) rfl (by decide) (Nat.le_of_ble_eq_true rfl) hc hs rfl ?_
      refine am_istore (lv' := [(0, .ref 0), (1, .ref 16), (2, .ref 117), (3, .ref 2637), (4, .int (Int32.ofNat i)), (5, .int (1 : Int32))]) (am_dec tmL_law_28 11 rfl) (by decide) rfl ?_
      refine am_aload_n (am_dec tmL_law_28 12 rfl) rfl rfl ?_
      refine am_aload_n (am_dec tmL_law_28 13 rfl) rfl rfl ?_
      refine am_iload (am_dec tmL_law_28 14 rfl) rfl ?_
      refine am_iconst (v := (1 : Int32)) (am_dec tmL_law_28 15 rfl) (by decide) ?_
      refine am_iadd (am_dec tmL_law_28 16 rfl) ?_
      refine am_sld (j := i + 1) hE (am_dec tmL_law_28 17 rfl) (k_iz i 1) (by omega) hL ?_
      refine am_aload_n (am_dec tmL_law_28 18 rfl) rfl rfl ?_
      refine am_iload (am_dec tmL_law_28 19 rfl) rfl ?_
      refine am_iconst (v := (2 : Int32)) (am_dec tmL_law_28 20 rfl) (by decide) ?_
      refine am_iadd (am_dec tmL_law_28 21 rfl) ?_
      refine am_sld (j := i + 2) hE (am_dec tmL_law_28 22 rfl) (k_iz i 2) (by omega) hL ?_
      refine am_callV1 (As := [.int (am_x E (i + 1)), .int (am_x E (i + 2))]) (st := []) hE (am_dec tmL_law_28 23 rfl) ok_X12_join rfl lmL_299 in_X12_join se_X12_join sh_117 cf12 (c_X12_join hE b2) rfl (by decide) (Nat.le_of_ble_eq_true rfl) hc hs rfl ?_
      refine am_istore (lv' := [(0, .ref 0), (1, .ref 16), (2, .ref 117), (3, .ref 2637), (4, .int (Int32.ofNat i)), (5, .int (1 : Int32)), (6, .int u)]) (am_dec tmL_law_28 24 rfl) (by decide) rfl ?_
      refine am_aload_n (am_dec tmL_law_28 25 rfl) rfl rfl ?_
      refine am_callV1 (As := []) (st := []) hE (am_dec tmL_law_28 26 rfl) ok_X12_thrown rfl lmL_169 in_X12_thrown se_X12_thrown sh_117 cf12 (c_X12_thrown hE hth) rfl (by decide) (Nat.le_of_ble_eq_true rfl) hc hs rfl ?_
      refine am_iload (am_dec tmL_law_28 27 rfl) rfl ?_
      refine am_icmp_eq (tgt := 2798) (am_dec tmL_law_28 28 rfl) (by decide) (fun _ => ?_) (fun h => absurd rfl h)
      refine am_iload (am_dec tmL_law_28 31 rfl) rfl ?_
      refine am_if_ne (tgt := 2815) (am_dec tmL_law_28 32 rfl) (by decide) (fun _ => ?_) (fun h => absurd h (by decide))
      refine am_goto (tgt := 3717) (am_dec tmL_law_28 42 rfl) (by decide) ?_
      refine am_pick [0, 1, 2, 3, 4] rfl ?_
      exact k
    · cases b0
set_option maxRecDepth 100000 in
set_option maxHeartbeats 4000000 in
theorem lw_shift {E : am_E} (hE : am_EH E) {D : am_D} (q : k_Q D D) {mc ms cu su i : Nat} (hL : am_L E ≤ 3072) (hi : i + 6 ≤ am_L E) (hc : cu + 1 ≤ mc) (hs : su + 6 ≤ ms) : ∃ D1, k_Q D1 D1 ∧ ∀ (o : am_O) (G' : am_G) (D' : am_D), am_S E mL_law 12 mc ms o G' D' (cu + 1) (su + 6) 3717 [(0, .ref 0), (1, .ref 16), (2, .ref 117), (3, .ref 2637), (4, .int (Int32.ofNat i))] [] am_G0 D1 → am_S E mL_law 12 mc ms o G' D' cu su 2818 [(0, .ref 0), (1, .ref 16), (2, .ref 117), (3, .ref 2637), (4, .int (Int32.ofNat i))] [] am_G0 D := by
  rcases k_joinE (f1 := fun D => f_X11_shift (am_x E (i + 1)) (am_x E (i + 2)) (am_x E (i + 3)) D) (f2 := fun D => f_X12_shift (am_x E (i + 1)) (am_x E (i + 2)) (am_x E (i + 3)) D) (ex := ["java/util/NoSuchElementException", "java/lang/IllegalArgumentException", "java/lang/IllegalStateException"]) (fun v => v.toInt64) (fun D E9 h => op_shift h (am_x E (i + 1)) (am_x E (i + 2)) (am_x E (i + 3))) q with ⟨D1, D2, v, a1, a2, a3, a4, a5⟩ | ⟨D1, D2, u, j, nm, b0, b1, b2, b3, b4⟩
  · refine ⟨D2, a4, fun o G' D' k => ?_⟩
    have hth : f_X12_thrown D2 = some (0 : Int32) := by rw [← a3]; rfl
    have hld : am_gL D2 2637 1 0 = some (D2.2 2637 0) := k_gl (k := 0) (by decide) (by decide)
    have hcu : ∀ _ : Unit, cu + 1 ≤ mc := fun _ => hc
    have hsu : ∀ _ : Unit, su + 6 ≤ ms := fun _ => hs
    refine am_aload_n (am_dec tmL_law_28 43 rfl) rfl rfl ?_
    refine am_aload_n (am_dec tmL_law_28 44 rfl) rfl rfl ?_
    refine am_iload (am_dec tmL_law_28 45 rfl) rfl ?_
    refine am_iconst (v := (1 : Int32)) (am_dec tmL_law_28 46 rfl) (by decide) ?_
    refine am_iadd (am_dec tmL_law_28 47 rfl) ?_
    refine am_sld (j := i + 1) hE (am_dec tmL_law_28 48 rfl) (k_iz i 1) (by omega) hL ?_
    refine am_aload_n (am_dec tmL_law_28 49 rfl) rfl rfl ?_
    refine am_iload (am_dec tmL_law_28 50 rfl) rfl ?_
    refine am_iconst (v := (2 : Int32)) (am_dec tmL_law_28 51 rfl) (by decide) ?_
    refine am_iadd (am_dec tmL_law_28 52 rfl) ?_
    refine am_sld (j := i + 2) hE (am_dec tmL_law_28 53 rfl) (k_iz i 2) (by omega) hL ?_
    refine am_aload_n (am_dec tmL_law_28 54 rfl) rfl rfl ?_
    refine am_iload (am_dec tmL_law_28 55 rfl) rfl ?_
    refine am_iconst (v := (3 : Int32)) (am_dec tmL_law_28 56 rfl) (by decide) ?_
    refine am_iadd (am_dec tmL_law_28 57 rfl) ?_
    refine am_sld (j := i + 3) hE (am_dec tmL_law_28 58 rfl) (k_iz i 3) (by omega) hL ?_
    refine am_aload_n (am_dec tmL_law_28 59 rfl) rfl rfl ?_
    refine am_callSH (As := [.ref 16, .int (am_x E (i + 1)), .int (am_x E (i + 2)), .int (am_x E (i + 3)), .ref 2637]) (st := []) (am_dec tmL_law_29 0 rfl) ok_L_shift (fun h => nomatch h) lmL_300 st_L_shift (cw_shift hE a1) rfl (by decide) (Nat.le_of_ble_eq_true rfl) hc hs rfl ?_
    refine am_istore (lv' := [(0, .ref 0), (1, .ref 16), (2, .ref 117), (3, .ref 2637), (4, .int (Int32.ofNat i)), (5, .int (0 : Int32))]) (am_dec tmL_law_29 1 rfl) (by decide) rfl ?_
    refine am_aload_n (am_dec tmL_law_29 2 rfl) rfl rfl ?_
    refine am_aload_n (am_dec tmL_law_29 3 rfl) rfl rfl ?_
    refine am_iload (am_dec tmL_law_29 4 rfl) rfl ?_
    refine am_iconst (v := (1 : Int32)) (am_dec tmL_law_29 5 rfl) (by decide) ?_
    refine am_iadd (am_dec tmL_law_29 6 rfl) ?_
    refine am_sld (j := i + 1) hE (am_dec tmL_law_29 7 rfl) (k_iz i 1) (by omega) hL ?_
    refine am_aload_n (am_dec tmL_law_29 8 rfl) rfl rfl ?_
    refine am_iload (am_dec tmL_law_29 9 rfl) rfl ?_
    refine am_iconst (v := (2 : Int32)) (am_dec tmL_law_29 10 rfl) (by decide) ?_
    refine am_iadd (am_dec tmL_law_29 11 rfl) ?_
    refine am_sld (j := i + 2) hE (am_dec tmL_law_29 12 rfl) (k_iz i 2) (by omega) hL ?_
    refine am_aload_n (am_dec tmL_law_29 13 rfl) rfl rfl ?_
    refine am_iload (am_dec tmL_law_29 14 rfl) rfl ?_
    refine am_iconst (v := (3 : Int32)) (am_dec tmL_law_29 15 rfl) (by decide) ?_
    refine am_iadd (am_dec tmL_law_29 16 rfl) ?_
    refine am_sld (j := i + 3) hE (am_dec tmL_law_29 17 rfl) (k_iz i 3) (by omega) hL ?_
    refine am_callV1 (As := [.int (am_x E (i + 1)), .int (am_x E (i + 2)), .int (am_x E (i + 3))]) (st := []) hE (am_dec tmL_law_29 18 rfl) ok_X12_shift rfl lmL_302 in_X12_shift se_X12_shift sh_117 cf12 (c_X12_shift hE a2) rfl (by decide) (Nat.le_of_ble_eq_true rfl) hc hs rfl ?_
    refine am_istore (lv' := [(0, .ref 0), (1, .ref 16), (2, .ref 117), (3, .ref 2637), (4, .int (Int32.ofNat i)), (5, .int (0 : Int32)), (6, .int v)]) (am_dec tmL_law_29 19 rfl) (by decide) rfl ?_
    refine am_aload_n (am_dec tmL_law_29 20 rfl) rfl rfl ?_
    refine am_callV1 (As := []) (st := []) hE (am_dec tmL_law_29 21 rfl) ok_X12_thrown rfl lmL_169 in_X12_thrown se_X12_thrown sh_117 cf12 (c_X12_thrown hE hth) rfl (by decide) (Nat.le_of_ble_eq_true rfl) hc hs rfl ?_
    refine am_iload (am_dec tmL_law_29 22 rfl) rfl ?_
    refine am_icmp_eq (tgt := 2878) (am_dec tmL_law_29 23 rfl) (by decide) (fun _ => ?_) (fun h => absurd rfl h)
    refine am_iload (am_dec tmL_law_29 26 rfl) rfl ?_
    refine am_if_ne (tgt := 2895) (am_dec tmL_law_29 27 rfl) (by decide) (fun h => absurd rfl h) (fun _ => ?_)
    refine am_aload_n (am_dec tmL_law_29 28 rfl) rfl rfl ?_
    refine am_iconst (v := (0 : Int32)) (am_dec tmL_law_29 29 rfl) (by decide) ?_
    refine am_lald2 (n := 1) (i := 0) (v := v.toInt64) hE (am_dec tmL_law_29 30 rfl) shq_2637 (hld.trans (congrArg some a5)) ?_
    refine am_iload (am_dec tmL_law_29 31 rfl) rfl ?_
    refine am_i2l (am_dec tmL_law_29 32 rfl) ?_
    refine am_lcmp (am_dec tmL_law_29 33 rfl) ?_
    refine am_if_eq (tgt := 2895) (am_dec tmL_law_29 34 rfl) (by decide) (fun _ => ?_) (fun h => absurd (k_cmp _) h)
    refine am_goto (tgt := 3717) (am_dec tmL_law_29 37 rfl) (by decide) ?_
    refine am_pick [0, 1, 2, 3, 4] rfl ?_
    exact k
  · rcases j with _ | _ | _ | j
    · cases b0
      refine ⟨D2, b4, fun o G' D' k => ?_⟩
      have hth : f_X12_thrown D2 = some (Int32.ofNat 1) := by rw [← b3]; rfl
      refine am_aload_n (am_dec tmL_law_28 43 rfl) rfl rfl ?_
      refine am_aload_n (am_dec tmL_law_28 44 rfl) rfl rfl ?_
      refine am_iload (am_dec tmL_law_28 45 rfl) rfl ?_
      refine am_iconst (v := (1 : Int32)) (am_dec tmL_law_28 46 rfl) (by decide) ?_
      refine am_iadd (am_dec tmL_law_28 47 rfl) ?_
      refine am_sld (j := i + 1) hE (am_dec tmL_law_28 48 rfl) (k_iz i 1) (by omega) hL ?_
      refine am_aload_n (am_dec tmL_law_28 49 rfl) rfl rfl ?_
      refine am_iload (am_dec tmL_law_28 50 rfl) rfl ?_
      refine am_iconst (v := (2 : Int32)) (am_dec tmL_law_28 51 rfl) (by decide) ?_
      refine am_iadd (am_dec tmL_law_28 52 rfl) ?_
      refine am_sld (j := i + 2) hE (am_dec tmL_law_28 53 rfl) (k_iz i 2) (by omega) hL ?_
      refine am_aload_n (am_dec tmL_law_28 54 rfl) rfl rfl ?_
      refine am_iload (am_dec tmL_law_28 55 rfl) rfl ?_
      refine am_iconst (v := (3 : Int32)) (am_dec tmL_law_28 56 rfl) (by decide) ?_
      refine am_iadd (am_dec tmL_law_28 57 rfl) ?_
      refine am_sld (j := i + 3) hE (am_dec tmL_law_28 58 rfl) (k_iz i 3) (by omega) hL ?_
      refine am_aload_n (am_dec tmL_law_28 59 rfl) rfl rfl ?_
      refine am_callSH (As := [.ref 16, .int (am_x E (i + 1)), .int (am_x E (i + 2)), .int (am_x E (i + 3)), .ref 2637]) (st := []) (am_dec tmL_law_29 0 rfl) ok_L_shift (fun h => nomatch h) lmL_300 st_L_shift (xw_shift_1 hE b1) rfl (by decide) (Nat.le_of_ble_eq_true rfl) hc hs rfl ?_
      refine am_istore (lv' := [(0, .ref 0), (1, .ref 16), (2, .ref 117), (3, .ref 2637), (4, .int (Int32.ofNat i)), (5, .int (1 : Int32))]) (am_dec tmL_law_29 1 rfl) (by decide) rfl ?_
      refine am_aload_n (am_dec tmL_law_29 2 rfl) rfl rfl ?_
      refine am_aload_n (am_dec tmL_law_29 3 rfl) rfl rfl ?_
      refine am_iload (am_dec tmL_law_29 4 rfl) rfl ?_
      refine am_iconst (v := (1 : Int32)) (am_dec tmL_law_29 5 rfl) (by decide) ?_
      refine am_iadd (am_dec tmL_law_29 6 rfl) ?_
      refine am_sld (j := i + 1) hE (am_dec tmL_law_29 7 rfl) (k_iz i 1) (by omega) hL ?_
      refine am_aload_n (am_dec tmL_law_29 8 rfl) rfl rfl ?_
      refine am_iload (am_dec tmL_law_29 9 rfl) rfl ?_
      refine am_iconst (v := (2 : Int32)) (am_dec tmL_law_29 10 rfl) (by decide) ?_
      refine am_iadd (am_dec tmL_law_29 11 rfl) ?_
      refine am_sld (j := i + 2) hE (am_dec tmL_law_29 12 rfl) (k_iz i 2) (by omega) hL ?_
      refine am_aload_n (am_dec tmL_law_29 13 rfl) rfl rfl ?_
      refine am_iload (am_dec tmL_law_29 14 rfl) rfl ?_
      refine am_iconst (v := (3 : Int32)) (am_dec tmL_law_29 15 rfl) (by decide) ?_
      refine am_iadd (am_dec tmL_law_29 16 rfl) ?_
      refine am_sld (j := i + 3) hE (am_dec tmL_law_29 17 rfl) (k_iz i 3) (by omega) hL ?_
      refine am_callV1 (As := [.int (am_x E (i + 1)), .int (am_x E (i + 2)), .int (am_x E (i + 3))]) (st := []) hE (am_dec tmL_law_29 18 rfl) ok_X12_shift rfl lmL_302 in_X12_shift se_X12_shift sh_117 cf12 (c_X12_shift hE b2) rfl (by decide) (Nat.le_of_ble_eq_true rfl) hc hs rfl ?_
      refine am_istore (lv' := [(0, .ref 0), (1, .ref 16), (2, .ref 117), (3, .ref 2637), (4, .int (Int32.ofNat i)), (5, .int (1 : Int32)), (6, .int u)]) (am_dec tmL_law_29 19 rfl) (by decide) rfl ?_
      refine am_aload_n (am_dec tmL_law_29 20 rfl) rfl rfl ?_
      refine am_callV1 (As := []) (st := []) hE (am_dec tmL_law_29 21 rfl) ok_X12_thrown rfl lmL_169 in_X12_thrown se_X12_thrown sh_117 cf12 (c_X12_thrown hE hth) rfl (by decide) (Nat.le_of_ble_eq_true rfl) hc hs rfl ?_
      refine am_iload (am_dec tmL_law_29 22 rfl) rfl ?_
      refine am_icmp_eq (tgt := 2878) (am_dec tmL_law_29 23 rfl) (by decide) (fun _ => ?_) (fun h => absurd rfl h)
      refine am_iload (am_dec tmL_law_29 26 rfl) rfl ?_
      refine am_if_ne (tgt := 2895) (am_dec tmL_law_29 27 rfl) (by decide) (fun _ => ?_) (fun h => absurd h (by decide))
      refine am_goto (tgt := 3717) (am_dec tmL_law_29 37 rfl) (by decide) ?_
      refine am_pick [0, 1, 2, 3, 4] rfl ?_
      exact k
    · cases b0
      refine ⟨D2, b4, fun o G' D' k => ?_⟩
      have hth : f_X12_thrown D2 = some (Int32.ofNat 2) := by rw [← b3]; rfl
      refine am_aload_n (am_dec tmL_law_28 43 rfl) rfl rfl ?_
      refine am_aload_n (am_dec tmL_law_28 44 rfl) rfl rfl ?_
      refine am_iload (am_dec tmL_law_28 45 rfl) rfl ?_
      refine am_iconst (v := (1 : Int32)) (am_dec tmL_law_28 46 rfl) (by decide) ?_
      refine am_iadd (am_dec tmL_law_28 47 rfl) ?_
      refine am_sld (j := i + 1) hE (am_dec tmL_law_28 48 rfl) (k_iz i 1) (by omega) hL ?_
      refine am_aload_n (am_dec tmL_law_28 49 rfl) rfl rfl ?_
      refine am_iload (am_dec tmL_law_28 50 rfl) rfl ?_
      refine am_iconst (v := (2 : Int32)) (am_dec tmL_law_28 51 rfl) (by decide) ?_
      refine am_iadd (am_dec tmL_law_28 52 rfl) ?_
      refine am_sld (j := i + 2) hE (am_dec tmL_law_28 53 rfl) (k_iz i 2) (by omega) hL ?_
      refine am_aload_n (am_dec tmL_law_28 54 rfl) rfl rfl ?_
      refine am_iload (am_dec tmL_law_28 55 rfl) rfl ?_
      refine am_iconst (v := (3 : Int32)) (am_dec tmL_law_28 56 rfl) (by decide) ?_
      refine am_iadd (am_dec tmL_law_28 57 rfl) ?_
      refine am_sld (j := i + 3) hE (am_dec tmL_law_28 58 rfl) (k_iz i 3) (by omega) hL ?_
      refine am_aload_n (am_dec tmL_law_28 59 rfl) rfl rfl ?_
      refine am_callSH (As := [.ref 16, .int (am_x E (i + 1)), .int (am_x E (i + 2)), .int (am_x E (i + 3)), .ref 2637]) (st := []) (am_dec tmL_law_29 0 rfl) ok_L_shift (fun h => nomatch h) lmL_300 st_L_shift (xw_shift_2 hE b1) rfl (by decide) (Nat.le_of_ble_eq_true rfl) hc hs rfl ?_
      refine am_istore (lv' := [(0, .ref 0), (1, .ref 16), (2, .ref 117), (3, .ref 2637), (4, .int (Int32.ofNat i)), (5, .int (2 : Int32))]) (am_dec tmL_law_29 1 rfl) (by decide) rfl ?_
      refine am_aload_n (am_dec tmL_law_29 2 rfl) rfl rfl ?_
      refine am_aload_n (am_dec tmL_law_29 3 rfl) rfl rfl ?_
      refine am_iload (am_dec tmL_law_29 4 rfl) rfl ?_
      refine am_iconst (v := (1 : Int32)) (am_dec tmL_law_29 5 rfl) (by decide) ?_
      refine am_iadd (am_dec tmL_law_29 6 rfl) ?_
      refine am_sld (j := i + 1) hE (am_dec tmL_law_29 7 rfl) (k_iz i 1) (by omega) hL ?_
      refine am_aload_n (am_dec tmL_law_29 8 rfl) rfl rfl ?_
      refine am_iload (am_dec tmL_law_29 9 rfl) rfl ?_
      refine am_iconst (v := (2 : Int32)) (am_dec tmL_law_29 10 rfl) (by decide) ?_
      refine am_iadd (am_dec tmL_law_29 11 rfl) ?_
      refine am_sld (j := i + 2) hE (am_dec tmL_law_29 12 rfl) (k_iz i 2) (by omega) hL ?_
      refine am_aload_n (am_dec tmL_law_29 13 rfl) rfl rfl ?_
      refine am_iload (am_dec tmL_law_29 14 rfl) rfl ?_
      refine am_iconst (v := (3 : Int32)) (am_dec tmL_law_29 15 rfl) (by decide) ?_
      refine am_iadd (am_dec tmL_law_29 16 rfl) ?_
      refine am_sld (j := i + 3) hE (am_dec tmL_law_29 17 rfl) (k_iz i 3) (by omega) hL ?_
      refine am_callV1 (As := [.int (am_x E (i + 1)), .int (am_x E (i + 2)), .int (am_x E (i + 3))]) (st := []) hE (am_dec tmL_law_29 18 rfl) ok_X12_shift rfl lmL_302 in_X12_shift se_X12_shift sh_117 cf12 (c_X12_shift hE b2) rfl (by decide) (Nat.le_of_ble_eq_true rfl) hc hs rfl ?_
      refine am_istore (lv' := [(0, .ref 0), (1, .ref 16), (2, .ref 117), (3, .ref 2637), (4, .int (Int32.ofNat i)), (5, .int (2 : Int32)), (6, .int u)]) (am_dec tmL_law_29 19 rfl) (by decide) rfl ?_
      refine am_aload_n (am_dec tmL_law_29 20 rfl) rfl rfl ?_
      refine am_callV1 (As := []) (st := []) hE (am_dec tmL_law_29 21 rfl) ok_X12_thrown rfl lmL_169 in_X12_thrown se_X12_thrown sh_117 cf12 (c_X12_thrown hE hth) rfl (by decide) (Nat.le_of_ble_eq_true rfl) hc hs rfl ?_
      refine am_iload (am_dec tmL_law_29 22 rfl) rfl ?_
      refine am_icmp_eq (tgt := 2878) (am_dec tmL_law_29 23 rfl) (by decide) (fun _ => ?_) (fun h => absurd rfl h)
      refine am_iload (am_dec tmL_law_29 26 rfl) rfl ?_
      refine am_if_ne (tgt := 2895) (am_dec tmL_law_29 27 rfl) (by decide) (fun _ => ?_) (fun h => absurd h (by decide))
      refine am_goto (tgt := 3717) (am_dec tmL_law_29 37 rfl) (by decide) ?_
      refine am_pick [0, 1, 2, 3, 4] rfl ?_
      exact k
    · cases b0
      refine ⟨D2, b4, fun o G' D' k => ?_⟩
      have hth : f_X12_thrown D2 = some (Int32.ofNat 3) := by rw [← b3]; rfl
      refine am_aload_n (am_dec tmL_law_28 43 rfl) rfl rfl ?_
      refine am_aload_n (am_dec tmL_law_28 44 rfl) rfl rfl ?_
      refine am_iload (am_dec tmL_law_28 45 rfl) rfl ?_
      refine am_iconst (v := (1 : Int32)) (am_dec tmL_law_28 46 rfl) (by decide) ?_
      refine am_iadd (am_dec tmL_law_28 47 rfl) ?_
      refine am_sld (j := i + 1) hE (am_dec tmL_law_28 48 rfl) (k_iz i 1) (by omega) hL ?_
      refine am_aload_n (am_dec tmL_law_28 49 rfl) rfl rfl ?_
      refine am_iload (am_dec tmL_law_28 50 rfl) rfl ?_
      refine am_iconst (v := (2 : Int32)) (am_dec tmL_law_28 51 rfl) (by decide) ?_
      refine am_iadd (am_dec tmL_law_28 52 rfl) ?_
      refine am_sld (j := i + 2) hE (am_dec tmL_law_28 53 rfl) (k_iz i 2) (by omega) hL ?_
      refine am_aload_n (am_dec tmL_law_28 54 rfl) rfl rfl ?_
      refine am_iload (am_dec tmL_law_28 55 rfl) rfl ?_
      refine am_iconst (v := (3 : Int32)) (am_dec tmL_law_28 56 rfl) (by decide) ?_
      refine am_iadd (am_dec tmL_law_28 57 rfl) ?_
      refine am_sld (j := i + 3) hE (am_dec tmL_law_28 58 rfl) (k_iz i 3) (by omega) hL ?_
      refine am_aload_n (am_dec tmL_law_28 59 rfl) rfl rfl ?_
      refine am_callSH (As := [.ref 16, .int (am_x E (i + 1)), .int (am_x E (i + 2)), .int (am_x E (i + 3)), .ref 2637]) (st := []) (am_dec tmL_law_29 0 rfl) ok_L_shift (fun h => nomatch h) lmL_300 st_L_shift (xw_shift_3 hE b1) rfl (by decide) (Nat.le_of_ble_eq_true rfl) hc hs rfl ?_
      refine am_istore (lv' := [(0, .ref 0), (1, .ref 16), (2, .ref 117), (3, .ref 2637), (4, .int (Int32.ofNat i)), (5, .int (3 : Int32))]) (am_dec tmL_law_29 1 rfl) (by decide) rfl ?_
      refine am_aload_n (am_dec tmL_law_29 2 rfl) rfl rfl ?_
      refine am_aload_n (am_dec tmL_law_29 3 rfl) rfl rfl ?_
      refine am_iload (am_dec tmL_law_29 4 rfl) rfl ?_
      refine am_iconst (v := (1 : Int32)) (am_dec tmL_law_29 5 rfl) (by decide) ?_
      refine am_iadd (am_dec tmL_law_29 6 rfl) ?_
      refine am_sld (j := i + 1) hE (am_dec tmL_law_29 7 rfl) (k_iz i 1) (by omega) hL ?_
      refine am_aload_n (am_dec tmL_law_29 8 rfl) rfl rfl ?_
      refine am_iload (am_dec tmL_law_29 9 rfl) rfl ?_
      refine am_iconst (v := (2 : Int32)) (am_dec tmL_law_29 10 rfl) (by decide) ?_
      refine am_iadd (am_dec tmL_law_29 11 rfl) ?_
      refine am_sld (j := i + 2) hE (am_dec tmL_law_29 12 rfl) (k_iz i 2) (by omega) hL ?_
      refine am_aload_n (am_dec tmL_law_29 13 rfl) rfl rfl ?_
      refine am_iload (am_dec tmL_law_29 14 rfl) rfl ?_
      refine am_iconst (v := (3 : Int32)) (am_dec tmL_law_29 15 rfl) (by decide) ?_
      refine am_iadd (am_dec tmL_law_29 16 rfl) ?_
      refine am_sld (j := i + 3) hE (am_dec tmL_law_29 17 rfl) (k_iz i 3) (by omega) hL ?_
      refine am_callV1 (As := [.int (am_x E (i + 1)), .int (am_x E (i + 2)), .int (am_x E (i + 3))]) (st := []) hE (am_dec tmL_law_29 18 rfl) ok_X12_shift rfl lmL_302 in_X12_shift se_X12_shift sh_117 cf12 (c_X12_shift hE b2) rfl (by decide) (Nat.le_of_ble_eq_true rfl) hc hs rfl ?_
      refine am_istore (lv' := [(0, .ref 0), (1, .ref 16), (2, .ref 117), (3, .ref 2637), (4, .int (Int32.ofNat i)), (5, .int (3 : Int32)), (6, .int u)]) (am_dec tmL_law_29 19 rfl) (by decide) rfl ?_
      refine am_aload_n (am_dec tmL_law_29 20 rfl) rfl rfl ?_
      refine am_callV1 (As := []) (st := []) hE (am_dec tmL_law_29 21 rfl) ok_X12_thrown rfl lmL_169 in_X12_thrown se_X12_thrown sh_117 cf12 (c_X12_thrown hE hth) rfl (by decide) (Nat.le_of_ble_eq_true rfl) hc hs rfl ?_
      refine am_iload (am_dec tmL_law_29 22 rfl) rfl ?_
      refine am_icmp_eq (tgt := 2878) (am_dec tmL_law_29 23 rfl) (by decide) (fun _ => ?_) (fun h => absurd rfl h)
      refine am_iload (am_dec tmL_law_29 26 rfl) rfl ?_
      refine am_if_ne (tgt := 2895) (am_dec tmL_law_29 27 rfl) (by decide) (fun _ => ?_) (fun h => absurd h (by decide))
      refine am_goto (tgt := 3717) (am_dec tmL_law_29 37 rfl) (by decide) ?_
      refine am_pick [0, 1, 2, 3, 4] rfl ?_
      exact k
    · cases b0
set_option maxRecDepth 100000 in
set_option maxHeartbeats 4000000 in
theorem lw_colour {E : am_E} (hE : am_EH E) {D : am_D} (q : k_Q D D) {mc ms cu su i : Nat} (hL : am_L E ≤ 3072) (hi : i + 6 ≤ am_L E) (hc : cu + 1 ≤ mc) (hs : su + 6 ≤ ms) : ∃ D1, k_Q D1 D1 ∧ ∀ (o : am_O) (G' : am_G) (D' : am_D), am_S E mL_law 12 mc ms o G' D' (cu + 1) (su + 6) 3717 [(0, .ref 0), (1, .ref 16), (2, .ref 117), (3, .ref 2637), (4, .int (Int32.ofNat i))] [] am_G0 D1 → am_S E mL_law 12 mc ms o G' D' cu su 2898 [(0, .ref 0), (1, .ref 16), (2, .ref 117), (3, .ref 2637), (4, .int (Int32.ofNat i))] [] am_G0 D := by
  rcases k_joinE (f1 := fun D => k_lf D (f_X11_colour (am_x E (i + 1)) (am_x E (i + 2)) D)) (f2 := fun D => f_X12_colour (am_x E (i + 1)) (am_x E (i + 2)) D) (ex := ["java/util/NoSuchElementException", "java/lang/IllegalArgumentException"]) (fun v => v.toInt64) (fun D E9 h => op_colour h (am_x E (i + 1)) (am_x E (i + 2))) q with ⟨D1, D2, v, a1, a2, a3, a4, a5⟩ | ⟨D1, D2, u, j, nm, b0, b1, b2, b3, b4⟩
  · refine ⟨D2, a4, fun o G' D' k => ?_⟩
    have hth : f_X12_thrown D2 = some (0 : Int32) := by rw [← a3]; rfl
    have hld : am_gL D2 2637 1 0 = some (D2.2 2637 0) := k_gl (k := 0) (by decide) (by decide)
    have hcu : ∀ _ : Unit, cu + 1 ≤ mc := fun _ => hc
    have hsu : ∀ _ : Unit, su + 6 ≤ ms := fun _ => hs
    refine am_aload_n (am_dec tmL_law_29 38 rfl) rfl rfl ?_
    refine am_aload_n (am_dec tmL_law_29 39 rfl) rfl rfl ?_
    refine am_iload (am_dec tmL_law_29 40 rfl) rfl ?_
    refine am_iconst (v := (1 : Int32)) (am_dec tmL_law_29 41 rfl) (by decide) ?_
    refine am_iadd (am_dec tmL_law_29 42 rfl) ?_
    refine am_sld (j := i + 1) hE (am_dec tmL_law_29 43 rfl) (k_iz i 1) (by omega) hL ?_
    refine am_aload_n (am_dec tmL_law_29 44 rfl) rfl rfl ?_
    refine am_iload (am_dec tmL_law_29 45 rfl) rfl ?_
    refine am_iconst (v := (2 : Int32)) (am_dec tmL_law_29 46 rfl) (by decide) ?_
    refine am_iadd (am_dec tmL_law_29 47 rfl) ?_
    refine am_sld (j := i + 2) hE (am_dec tmL_law_29 48 rfl) (k_iz i 2) (by omega) hL ?_
    refine am_aload_n (am_dec tmL_law_29 49 rfl) rfl rfl ?_
    refine am_callSH (As := [.ref 16, .int (am_x E (i + 1)), .int (am_x E (i + 2)), .ref 2637]) (st := []) (am_dec tmL_law_29 50 rfl) ok_L_colour (fun h => nomatch h) lmL_303 st_L_colour (cw_colour hE a1) rfl (by decide) (Nat.le_of_ble_eq_true rfl) hc hs rfl ?_
    refine am_istore (lv' := [(0, .ref 0), (1, .ref 16), (2, .ref 117), (3, .ref 2637), (4, .int (Int32.ofNat i)), (5, .int (0 : Int32))]) (am_dec tmL_law_29 51 rfl) (by decide) rfl ?_
    refine am_aload_n (am_dec tmL_law_29 52 rfl) rfl rfl ?_
    refine am_aload_n (am_dec tmL_law_29 53 rfl) rfl rfl ?_
    refine am_iload (am_dec tmL_law_29 54 rfl) rfl ?_
    refine am_iconst (v := (1 : Int32)) (am_dec tmL_law_29 55 rfl) (by decide) ?_
    refine am_iadd (am_dec tmL_law_29 56 rfl) ?_
    refine am_sld (j := i + 1) hE (am_dec tmL_law_29 57 rfl) (k_iz i 1) (by omega) hL ?_
    refine am_aload_n (am_dec tmL_law_29 58 rfl) rfl rfl ?_
    refine am_iload (am_dec tmL_law_29 59 rfl) rfl ?_
    refine am_iconst (v := (2 : Int32)) (am_dec tmL_law_30 0 rfl) (by decide) ?_
    refine am_iadd (am_dec tmL_law_30 1 rfl) ?_
    refine am_sld (j := i + 2) hE (am_dec tmL_law_30 2 rfl) (k_iz i 2) (by omega) hL ?_
    refine am_callV1 (As := [.int (am_x E (i + 1)), .int (am_x E (i + 2))]) (st := []) hE (am_dec tmL_law_30 3 rfl) ok_X12_colour rfl lmL_305 in_X12_colour se_X12_colour sh_117 cf12 (c_X12_colour hE a2) rfl (by decide) (Nat.le_of_ble_eq_true rfl) hc hs rfl ?_
    refine am_istore (lv' := [(0, .ref 0), (1, .ref 16), (2, .ref 117), (3, .ref 2637), (4, .int (Int32.ofNat i)), (5, .int (0 : Int32)), (6, .int v)]) (am_dec tmL_law_30 4 rfl) (by decide) rfl ?_
    refine am_aload_n (am_dec tmL_law_30 5 rfl) rfl rfl ?_
    refine am_callV1 (As := []) (st := []) hE (am_dec tmL_law_30 6 rfl) ok_X12_thrown rfl lmL_169 in_X12_thrown se_X12_thrown sh_117 cf12 (c_X12_thrown hE hth) rfl (by decide) (Nat.le_of_ble_eq_true rfl) hc hs rfl ?_
    refine am_iload (am_dec tmL_law_30 7 rfl) rfl ?_
    refine am_icmp_eq (tgt := 2946) (am_dec tmL_law_30 8 rfl) (by decide) (fun _ => ?_) (fun h => absurd rfl h)
    refine am_iload (am_dec tmL_law_30 11 rfl) rfl ?_
    refine am_if_ne (tgt := 2963) (am_dec tmL_law_30 12 rfl) (by decide) (fun h => absurd rfl h) (fun _ => ?_)
    refine am_aload_n (am_dec tmL_law_30 13 rfl) rfl rfl ?_
    refine am_iconst (v := (0 : Int32)) (am_dec tmL_law_30 14 rfl) (by decide) ?_
    refine am_lald2 (n := 1) (i := 0) (v := v.toInt64) hE (am_dec tmL_law_30 15 rfl) shq_2637 (hld.trans (congrArg some a5)) ?_
    refine am_iload (am_dec tmL_law_30 16 rfl) rfl ?_
    refine am_i2l (am_dec tmL_law_30 17 rfl) ?_
    refine am_lcmp (am_dec tmL_law_30 18 rfl) ?_
    refine am_if_eq (tgt := 2963) (am_dec tmL_law_30 19 rfl) (by decide) (fun _ => ?_) (fun h => absurd (k_cmp _) h)
    refine am_goto (tgt := 3717) (am_dec tmL_law_30 22 rfl) (by decide) ?_
    refine am_pick [0, 1, 2, 3, 4] rfl ?_
    exact k
  · rcases j with _ | _ | j
    · cases b0
      refine ⟨D2, b4, fun o G' D' k => ?_⟩
      have hth : f_X12_thrown D2 = some (Int32.ofNat 1) := by rw [← b3]; rfl
      refine am_aload_n (am_dec tmL_law_29 38 rfl) rfl rfl ?_
      refine am_aload_n (am_dec tmL_law_29 39 rfl) rfl rfl ?_
      refine am_iload (am_dec tmL_law_29 40 rfl) rfl ?_
      refine am_iconst (v := (1 : Int32)) (am_dec tmL_law_29 41 rfl) (by decide) ?_
      refine am_iadd (am_dec tmL_law_29 42 rfl) ?_
      refine am_sld (j := i + 1) hE (am_dec tmL_law_29 43 rfl) (k_iz i 1) (by omega) hL ?_
      refine am_aload_n (am_dec tmL_law_29 44 rfl) rfl rfl ?_
      refine am_iload (am_dec tmL_law_29 45 rfl) rfl ?_
      refine am_iconst (v := (2 : Int32)) (am_dec tmL_law_29 46 rfl) (by decide) ?_
      refine am_iadd (am_dec tmL_law_29 47 rfl) ?_
      refine am_sld (j := i + 2) hE (am_dec tmL_law_29 48 rfl) (k_iz i 2) (by omega) hL ?_
      refine am_aload_n (am_dec tmL_law_29 49 rfl) rfl rfl ?_
      refine am_callSH (As := [.ref 16, .int (am_x E (i + 1)), .int (am_x E (i + 2)), .ref 2637]) (st := []) (am_dec tmL_law_29 50 rfl) ok_L_colour (fun h => nomatch h) lmL_303 st_L_colour (xw_colour_1 hE b1) rfl (by decide) (Nat.le_of_ble_eq_true rfl) hc hs rfl ?_
      refine am_istore (lv' := [(0, .ref 0), (1, .ref 16), (2, .ref 117), (3, .ref 2637), (4, .int (Int32.ofNat i)), (5, .int (1 : Int32))]) (am_dec tmL_law_29 51 rfl) (by decide) rfl ?_
      refine am_aload_n (am_dec tmL_law_29 52 rfl) rfl rfl ?_
      refine am_aload_n (am_dec tmL_law_29 53 rfl) rfl rfl ?_
      refine am_iload (am_dec tmL_law_29 54 rfl) rfl ?_
      refine am_iconst (v := (1 : Int32)) (am_dec tmL_law_29 55 rfl) (by decide) ?_
      refine am_iadd (am_dec tmL_law_29 56 rfl) ?_
      refine am_sld (j := i + 1) hE (am_dec tmL_law_29 57 rfl) (k_iz i 1) (by omega) hL ?_
      refine am_aload_n (am_dec tmL_law_29 58 rfl) rfl rfl ?_
      refine am_iload (am_dec tmL_law_29 59 rfl) rfl ?_
      refine am_iconst (v := (2 : Int32)) (am_dec tmL_law_30 0 rfl) (by decide) ?_
      refine am_iadd (am_dec tmL_law_30 1 rfl) ?_
      refine am_sld (j := i + 2) hE (am_dec tmL_law_30 2 rfl) (k_iz i 2) (by omega) hL ?_
      refine am_callV1 (As := [.int (am_x E (i + 1)), .int (am_x E (i + 2))]) (st := []) hE (am_dec tmL_law_30 3 rfl) ok_X12_colour rfl lmL_305 in_X12_colour se_X12_colour sh_117 cf12 (c_X12_colour hE b2) rfl (by decide) (Nat.le_of_ble_eq_true rfl) hc hs rfl ?_
      refine am_istore (lv' := [(0, .ref 0), (1, .ref 16), (2, .ref 117), (3, .ref 2637), (4, .int (Int32.ofNat i)), (5, .int (1 : Int32)), (6, .int u)]) (am_dec tmL_law_30 4 rfl) (by decide) rfl ?_
      refine am_aload_n (am_dec tmL_law_30 5 rfl) rfl rfl ?_
      refine am_callV1 (As := []) (st := []) hE (am_dec tmL_law_30 6 rfl) ok_X12_thrown rfl lmL_169 in_X12_thrown se_X12_thrown sh_117 cf12 (c_X12_thrown hE hth) rfl (by decide) (Nat.le_of_ble_eq_true rfl) hc hs rfl ?_
      refine am_iload (am_dec tmL_law_30 7 rfl) rfl ?_
      refine am_icmp_eq (tgt := 2946) (am_dec tmL_law_30 8 rfl) (by decide) (fun _ => ?_) (fun h => absurd rfl h)
      refine am_iload (am_dec tmL_law_30 11 rfl) rfl ?_
      refine am_if_ne (tgt := 2963) (am_dec tmL_law_30 12 rfl) (by decide) (fun _ => ?_) (fun h => absurd h (by decide))
      refine am_goto (tgt := 3717) (am_dec tmL_law_30 22 rfl) (by decide) ?_
      refine am_pick [0, 1, 2, 3, 4] rfl ?_
      exact k
    · cases b0
      refine ⟨D2, b4, fun o G' D' k => ?_⟩
      have hth : f_X12_thrown D2 = some (Int32.ofNat 2) := by rw [← b3]; rfl
      refine am_aload_n (am_dec tmL_law_29 38 rfl) rfl rfl ?_
      refine am_aload_n (am_dec tmL_law_29 39 rfl) rfl rfl ?_
      refine am_iload (am_dec tmL_law_29 40 rfl) rfl ?_
      refine am_iconst (v := (1 : Int32)) (am_dec tmL_law_29 41 rfl) (by decide) ?_
      refine am_iadd (am_dec tmL_law_29 42 rfl) ?_
      refine am_sld (j := i + 1) hE (am_dec tmL_law_29 43 rfl) (k_iz i 1) (by omega) hL ?_
      refine am_aload_n (am_dec tmL_law_29 44 rfl) rfl rfl ?_
      refine am_iload (am_dec tmL_law_29 45 rfl) rfl ?_
      refine am_iconst (v := (2 : Int32)) (am_dec tmL_law_29 46 rfl) (by decide) ?_
      refine am_iadd (am_dec tmL_law_29 47 rfl) ?_
      refine am_sld (j := i + 2) hE (am_dec tmL_law_29 48 rfl) (k_iz i 2) (by omega) hL ?_
      refine am_aload_n (am_dec tmL_law_29 49 rfl) rfl rfl ?_
      refine am_callSH (As := [.ref 16, .int (am_x E (i + 1)), .int (am_x E (i + 2)), .ref 2637]) (st := []) (am_dec tmL_law_29 50 rfl) ok_L_colour (fun h => nomatch h) lmL_303 st_L_colour (xw_colour_2 hE b1) rfl (by decide) (Nat.le_of_ble_eq_true rfl) hc hs rfl ?_
      refine am_istore (lv' := [(0, .ref 0), (1, .ref 16), (2, .ref 117), (3, .ref 2637), (4, .int (Int32.ofNat i)), (5, .int (2 : Int32))]) (am_dec tmL_law_29 51 rfl) (by decide) rfl ?_
      refine am_aload_n (am_dec tmL_law_29 52 rfl) rfl rfl ?_
      refine am_aload_n (am_dec tmL_law_29 53 rfl) rfl rfl ?_
      refine am_iload (am_dec tmL_law_29 54 rfl) rfl ?_
      refine am_iconst (v := (1 : Int32)) (am_dec tmL_law_29 55 rfl) (by decide) ?_
      refine am_iadd (am_dec tmL_law_29 56 rfl) ?_
      refine am_sld (j := i + 1) hE (am_dec tmL_law_29 57 rfl) (k_iz i 1) (by omega) hL ?_
      refine am_aload_n (am_dec tmL_law_29 58 rfl) rfl rfl ?_
      refine am_iload (am_dec tmL_law_29 59 rfl) rfl ?_
      refine am_iconst (v := (2 : Int32)) (am_dec tmL_law_30 0 rfl) (by decide) ?_
      refine am_iadd (am_dec tmL_law_30 1 rfl) ?_
      refine am_sld (j := i + 2) hE (am_dec tmL_law_30 2 rfl) (k_iz i 2) (by omega) hL ?_
      refine am_callV1 (As := [.int (am_x E (i + 1)), .int (am_x E (i + 2))]) (st := []) hE (am_dec tmL_law_30 3 rfl) ok_X12_colour rfl lmL_305 in_X12_colour se_X12_colour sh_117 cf12 (c_X12_colour hE b2) rfl (by decide) (Nat.le_of_ble_eq_true rfl) hc hs rfl ?_
      refine am_istore (lv' := [(0, .ref 0), (1, .ref 16), (2, .ref 117), (3, .ref 2637), (4, .int (Int32.ofNat i)), (5, .int (2 : Int32)), (6, .int u)]) (am_dec tmL_law_30 4 rfl) (by decide) rfl ?_
      refine am_aload_n (am_dec tmL_law_30 5 rfl) rfl rfl ?_
      refine am_callV1 (As := []) (st := []) hE (am_dec tmL_law_30 6 rfl) ok_X12_thrown rfl lmL_169 in_X12_thrown se_X12_thrown sh_117 cf12 (c_X12_thrown hE hth) rfl (by decide) (Nat.le_of_ble_eq_true rfl) hc hs rfl ?_
      refine am_iload (am_dec tmL_law_30 7 rfl) rfl ?_
      refine am_icmp_eq (tgt := 2946) (am_dec tmL_law_30 8 rfl) (by decide) (fun _ => ?_) (fun h => absurd rfl h)
      refine am_iload (am_dec tmL_law_30 11 rfl) rfl ?_
      refine am_if_ne (tgt := 2963) (am_dec tmL_law_30 12 rfl) (by decide) (fun _ => ?_) (fun h => absurd h (by decide))
      refine am_goto (tgt := 3717) (am_dec tmL_law_30 22 rfl) (by decide) ?_
      refine am_pick [0, 1, 2, 3, 4] rfl ?_
      exact k
    · cases b0
set_option maxRecDepth 100000 in
set_option maxHeartbeats 4000000 in
theorem lw_peak {E : am_E} (hE : am_EH E) {D : am_D} (q : k_Q D D) {mc ms cu su i : Nat} (hL : am_L E ≤ 3072) (hi : i + 6 ≤ am_L E) (hc : cu + 1 ≤ mc) (hs : su + 6 ≤ ms) : ∃ D1, k_Q D1 D1 ∧ ∀ (o : am_O) (G' : am_G) (D' : am_D), am_S E mL_law 12 mc ms o G' D' (cu + 1) (su + 6) 3717 [(0, .ref 0), (1, .ref 16), (2, .ref 117), (3, .ref 2637), (4, .int (Int32.ofNat i))] [] am_G0 D1 → am_S E mL_law 12 mc ms o G' D' cu su 2966 [(0, .ref 0), (1, .ref 16), (2, .ref 117), (3, .ref 2637), (4, .int (Int32.ofNat i))] [] am_G0 D := by
  rcases k_joinE (f1 := fun D => f_X11_peak (am_x E (i + 1)) (am_x E (i + 2)) (am_x E (i + 3)) (am_x E (i + 4)) D) (f2 := fun D => f_X12_peak (am_x E (i + 1)) (am_x E (i + 2)) (am_x E (i + 3)) (am_x E (i + 4)) D) (ex := ["java/util/NoSuchElementException", "java/lang/IllegalArgumentException"]) (fun v => v.toInt64) (fun D E9 h => op_peak h (am_x E (i + 1)) (am_x E (i + 2)) (am_x E (i + 3)) (am_x E (i + 4))) q with ⟨D1, D2, v, a1, a2, a3, a4, a5⟩ | ⟨D1, D2, u, j, nm, b0, b1, b2, b3, b4⟩
  · refine ⟨D2, a4, fun o G' D' k => ?_⟩
    have hth : f_X12_thrown D2 = some (0 : Int32) := by rw [← a3]; rfl
    have hld : am_gL D2 2637 1 0 = some (D2.2 2637 0) := k_gl (k := 0) (by decide) (by decide)
    have hcu : ∀ _ : Unit, cu + 1 ≤ mc := fun _ => hc
    have hsu : ∀ _ : Unit, su + 6 ≤ ms := fun _ => hs
    refine am_aload_n (am_dec tmL_law_30 23 rfl) rfl rfl ?_
    refine am_aload_n (am_dec tmL_law_30 24 rfl) rfl rfl ?_
    refine am_iload (am_dec tmL_law_30 25 rfl) rfl ?_
    refine am_iconst (v := (1 : Int32)) (am_dec tmL_law_30 26 rfl) (by decide) ?_
    refine am_iadd (am_dec tmL_law_30 27 rfl) ?_
    refine am_sld (j := i + 1) hE (am_dec tmL_law_30 28 rfl) (k_iz i 1) (by omega) hL ?_
    refine am_aload_n (am_dec tmL_law_30 29 rfl) rfl rfl ?_
    refine am_iload (am_dec tmL_law_30 30 rfl) rfl ?_
    refine am_iconst (v := (2 : Int32)) (am_dec tmL_law_30 31 rfl) (by decide) ?_
    refine am_iadd (am_dec tmL_law_30 32 rfl) ?_
    refine am_sld (j := i + 2) hE (am_dec tmL_law_30 33 rfl) (k_iz i 2) (by omega) hL ?_
    refine am_aload_n (am_dec tmL_law_30 34 rfl) rfl rfl ?_
    refine am_iload (am_dec tmL_law_30 35 rfl) rfl ?_
    refine am_iconst (v := (3 : Int32)) (am_dec tmL_law_30 36 rfl) (by decide) ?_
    refine am_iadd (am_dec tmL_law_30 37 rfl) ?_
    refine am_sld (j := i + 3) hE (am_dec tmL_law_30 38 rfl) (k_iz i 3) (by omega) hL ?_
    refine am_aload_n (am_dec tmL_law_30 39 rfl) rfl rfl ?_
    refine am_iload (am_dec tmL_law_30 40 rfl) rfl ?_
    refine am_iconst (v := (4 : Int32)) (am_dec tmL_law_30 41 rfl) (by decide) ?_
    refine am_iadd (am_dec tmL_law_30 42 rfl) ?_
    refine am_sld (j := i + 4) hE (am_dec tmL_law_30 43 rfl) (k_iz i 4) (by omega) hL ?_
    refine am_aload_n (am_dec tmL_law_30 44 rfl) rfl rfl ?_
    refine am_callSH (As := [.ref 16, .int (am_x E (i + 1)), .int (am_x E (i + 2)), .int (am_x E (i + 3)), .int (am_x E (i + 4)), .ref 2637]) (st := []) (am_dec tmL_law_30 45 rfl) ok_L_peak (fun h => nomatch h) lmL_306 st_L_peak (cw_peak hE a1) rfl (by decide) (Nat.le_of_ble_eq_true rfl) hc hs rfl ?_
    refine am_istore (lv' := [(0, .ref 0), (1, .ref 16), (2, .ref 117), (3, .ref 2637), (4, .int (Int32.ofNat i)), (5, .int (0 : Int32))]) (am_dec tmL_law_30 46 rfl) (by decide) rfl ?_
    refine am_aload_n (am_dec tmL_law_30 47 rfl) rfl rfl ?_
    refine am_aload_n (am_dec tmL_law_30 48 rfl) rfl rfl ?_
    refine am_iload (am_dec tmL_law_30 49 rfl) rfl ?_
    refine am_iconst (v := (1 : Int32)) (am_dec tmL_law_30 50 rfl) (by decide) ?_
    refine am_iadd (am_dec tmL_law_30 51 rfl) ?_
    refine am_sld (j := i + 1) hE (am_dec tmL_law_30 52 rfl) (k_iz i 1) (by omega) hL ?_
    refine am_aload_n (am_dec tmL_law_30 53 rfl) rfl rfl ?_
    refine am_iload (am_dec tmL_law_30 54 rfl) rfl ?_
    refine am_iconst (v := (2 : Int32)) (am_dec tmL_law_30 55 rfl) (by decide) ?_
    refine am_iadd (am_dec tmL_law_30 56 rfl) ?_
    refine am_sld (j := i + 2) hE (am_dec tmL_law_30 57 rfl) (k_iz i 2) (by omega) hL ?_
    refine am_aload_n (am_dec tmL_law_30 58 rfl) rfl rfl ?_
    refine am_iload (am_dec tmL_law_30 59 rfl) rfl ?_
    refine am_iconst (v := (3 : Int32)) (am_dec tmL_law_31 0 rfl) (by decide) ?_
    refine am_iadd (am_dec tmL_law_31 1 rfl) ?_
    refine am_sld (j := i + 3) hE (am_dec tmL_law_31 2 rfl) (k_iz i 3) (by omega) hL ?_
    refine am_aload_n (am_dec tmL_law_31 3 rfl) rfl rfl ?_
    refine am_iload (am_dec tmL_law_31 4 rfl) rfl ?_
    refine am_iconst (v := (4 : Int32)) (am_dec tmL_law_31 5 rfl) (by decide) ?_
    refine am_iadd (am_dec tmL_law_31 6 rfl) ?_
    refine am_sld (j := i + 4) hE (am_dec tmL_law_31 7 rfl) (k_iz i 4) (by omega) hL ?_
    refine am_callV1 (As := [.int (am_x E (i + 1)), .int (am_x E (i + 2)), .int (am_x E (i + 3)), .int (am_x E (i + 4))]) (st := []) hE (am_dec tmL_law_31 8 rfl) ok_X12_peak rfl lmL_308 in_X12_peak se_X12_peak sh_117 cf12 (c_X12_peak hE a2) rfl (by decide) (Nat.le_of_ble_eq_true rfl) hc hs rfl ?_
    refine am_istore (lv' := [(0, .ref 0), (1, .ref 16), (2, .ref 117), (3, .ref 2637), (4, .int (Int32.ofNat i)), (5, .int (0 : Int32)), (6, .int v)]) (am_dec tmL_law_31 9 rfl) (by decide) rfl ?_
    refine am_aload_n (am_dec tmL_law_31 10 rfl) rfl rfl ?_
    refine am_callV1 (As := []) (st := []) hE (am_dec tmL_law_31 11 rfl) ok_X12_thrown rfl lmL_169 in_X12_thrown se_X12_thrown sh_117 cf12 (c_X12_thrown hE hth) rfl (by decide) (Nat.le_of_ble_eq_true rfl) hc hs rfl ?_
    refine am_iload (am_dec tmL_law_31 12 rfl) rfl ?_
    refine am_icmp_eq (tgt := 3038) (am_dec tmL_law_31 13 rfl) (by decide) (fun _ => ?_) (fun h => absurd rfl h)
    refine am_iload (am_dec tmL_law_31 16 rfl) rfl ?_
    refine am_if_ne (tgt := 3055) (am_dec tmL_law_31 17 rfl) (by decide) (fun h => absurd rfl h) (fun _ => ?_)
    refine am_aload_n (am_dec tmL_law_31 18 rfl) rfl rfl ?_
    refine am_iconst (v := (0 : Int32)) (am_dec tmL_law_31 19 rfl) (by decide) ?_
    refine am_lald2 (n := 1) (i := 0) (v := v.toInt64) hE (am_dec tmL_law_31 20 rfl) shq_2637 (hld.trans (congrArg some a5)) ?_
    refine am_iload (am_dec tmL_law_31 21 rfl) rfl ?_
    refine am_i2l (am_dec tmL_law_31 22 rfl) ?_
    refine am_lcmp (am_dec tmL_law_31 23 rfl) ?_
    refine am_if_eq (tgt := 3055) (am_dec tmL_law_31 24 rfl) (by decide) (fun _ => ?_) (fun h => absurd (k_cmp _) h)
    refine am_goto (tgt := 3717) (am_dec tmL_law_31 27 rfl) (by decide) ?_
    refine am_pick [0, 1, 2, 3, 4] rfl ?_
    exact k
  · rcases j with _ | _ | j
    · cases b0
      refine ⟨D2, b4, fun o G' D' k => ?_⟩
      have hth : f_X12_thrown D2 = some (Int32.ofNat 1) := by rw [← b3]; rfl
      refine am_aload_n (am_dec tmL_law_30 23 rfl) rfl rfl ?_
      refine am_aload_n (am_dec tmL_law_30 24 rfl) rfl rfl ?_
      refine am_iload (am_dec tmL_law_30 25 rfl) rfl ?_
      refine am_iconst (v := (1 : Int32)) (am_dec tmL_law_30 26 rfl) (by decide) ?_
      refine am_iadd (am_dec tmL_law_30 27 rfl) ?_
      refine am_sld (j := i + 1) hE (am_dec tmL_law_30 28 rfl) (k_iz i 1) (by omega) hL ?_
      refine am_aload_n (am_dec tmL_law_30 29 rfl) rfl rfl ?_
      refine am_iload (am_dec tmL_law_30 30 rfl) rfl ?_
      refine am_iconst (v := (2 : Int32)) (am_dec tmL_law_30 31 rfl) (by decide) ?_
      refine am_iadd (am_dec tmL_law_30 32 rfl) ?_
      refine am_sld (j := i + 2) hE (am_dec tmL_law_30 33 rfl) (k_iz i 2) (by omega) hL ?_
      refine am_aload_n (am_dec tmL_law_30 34 rfl) rfl rfl ?_
      refine am_iload (am_dec tmL_law_30 35 rfl) rfl ?_
      refine am_iconst (v := (3 : Int32)) (am_dec tmL_law_30 36 rfl) (by decide) ?_
      refine am_iadd (am_dec tmL_law_30 37 rfl) ?_
      refine am_sld (j := i + 3) hE (am_dec tmL_law_30 38 rfl) (k_iz i 3) (by omega) hL ?_
      refine am_aload_n (am_dec tmL_law_30 39 rfl) rfl rfl ?_
      refine am_iload (am_dec tmL_law_30 40 rfl) rfl ?_
      refine am_iconst (v := (4 : Int32)) (am_dec tmL_law_30 41 rfl) (by decide) ?_
      refine am_iadd (am_dec tmL_law_30 42 rfl) ?_
      refine am_sld (j := i + 4) hE (am_dec tmL_law_30 43 rfl) (k_iz i 4) (by omega) hL ?_
      refine am_aload_n (am_dec tmL_law_30 44 rfl) rfl rfl ?_
      refine am_callSH (As := [.ref 16, .int (am_x E (i + 1)), .int (am_x E (i + 2)), .int (am_x E (i + 3)), .int (am_x E (i + 4)), .ref 2637]) (st := []) (am_dec tmL_law_30 45 rfl) ok_L_peak (fun h => nomatch h) lmL_306 st_L_peak (xw_peak_1 hE b1) rfl (by decide) (Nat.le_of_ble_eq_true rfl) hc hs rfl ?_
      refine am_istore (lv' := [(0, .ref 0), (1, .ref 16), (2, .ref 117), (3, .ref 2637), (4, .int (Int32.ofNat i)), (5, .int (1 : Int32))]) (am_dec tmL_law_30 46 rfl) (by decide) rfl ?_
      refine am_aload_n (am_dec tmL_law_30 47 rfl) rfl rfl ?_
      refine am_aload_n (am_dec tmL_law_30 48 rfl) rfl rfl ?_
      refine am_iload (am_dec tmL_law_30 49 rfl) rfl ?_
      refine am_iconst (v := (1 : Int32)) (am_dec tmL_law_30 50 rfl) (by decide) ?_
      refine am_iadd (am_dec tmL_law_30 51 rfl) ?_
      refine am_sld (j := i + 1) hE (am_dec tmL_law_30 52 rfl) (k_iz i 1) (by omega) hL ?_
      refine am_aload_n (am_dec tmL_law_30 53 rfl) rfl rfl ?_
      refine am_iload (am_dec tmL_law_30 54 rfl) rfl ?_
      refine am_iconst (v := (2 : Int32)) (am_dec tmL_law_30 55 rfl) (by decide) ?_
      refine am_iadd (am_dec tmL_law_30 56 rfl) ?_
      refine am_sld (j := i + 2) hE (am_dec tmL_law_30 57 rfl) (k_iz i 2) (by omega) hL ?_
      refine am_aload_n (am_dec tmL_law_30 58 rfl) rfl rfl ?_
      refine am_iload (am_dec tmL_law_30 59 rfl) rfl ?_
      refine am_iconst (v := (3 : Int32)) (am_dec tmL_law_31 0 rfl) (by decide) ?_
      refine am_iadd (am_dec tmL_law_31 1 rfl) ?_
      refine am_sld (j := i + 3) hE (am_dec tmL_law_31 2 rfl) (k_iz i 3) (by omega) hL ?_
      refine am_aload_n (am_dec tmL_law_31 3 rfl) rfl rfl ?_
      refine am_iload (am_dec tmL_law_31 4 rfl) rfl ?_
      refine am_iconst (v := (4 : Int32)) (am_dec tmL_law_31 5 rfl) (by decide) ?_
      refine am_iadd (am_dec tmL_law_31 6 rfl) ?_
      refine am_sld (j := i + 4) hE (am_dec tmL_law_31 7 rfl) (k_iz i 4) (by omega) hL ?_
      refine am_callV1 (As := [.int (am_x E (i + 1)), .int (am_x E (i + 2)), .int (am_x E (i + 3)), .int (am_x E (i + 4))]) (st := []) hE (am_dec tmL_law_31 8 rfl) ok_X12_peak rfl lmL_308 in_X12_peak se_X12_peak sh_117 cf12 (c_X12_peak hE b2) rfl (by decide) (Nat.le_of_ble_eq_true rfl) hc hs rfl ?_
      refine am_istore (lv' := [(0, .ref 0), (1, .ref 16), (2, .ref 117), (3, .ref 2637), (4, .int (Int32.ofNat i)), (5, .int (1 : Int32)), (6, .int u)]) (am_dec tmL_law_31 9 rfl) (by decide) rfl ?_
      refine am_aload_n (am_dec tmL_law_31 10 rfl) rfl rfl ?_
      refine am_callV1 (As := []) (st := []) hE (am_dec tmL_law_31 11 rfl) ok_X12_thrown rfl lmL_169 in_X12_thrown se_X12_thrown sh_117 cf12 (c_X12_thrown hE hth) rfl (by decide) (Nat.le_of_ble_eq_true rfl) hc hs rfl ?_
      refine am_iload (am_dec tmL_law_31 12 rfl) rfl ?_
      refine am_icmp_eq (tgt := 3038) (am_dec tmL_law_31 13 rfl) (by decide) (fun _ => ?_) (fun h => absurd rfl h)
      refine am_iload (am_dec tmL_law_31 16 rfl) rfl ?_
      refine am_if_ne (tgt := 3055) (am_dec tmL_law_31 17 rfl) (by decide) (fun _ => ?_) (fun h => absurd h (by decide))
      refine am_goto (tgt := 3717) (am_dec tmL_law_31 27 rfl) (by decide) ?_
      refine am_pick [0, 1, 2, 3, 4] rfl ?_
      exact k
    · cases b0
      refine ⟨D2, b4, fun o G' D' k => ?_⟩
      have hth : f_X12_thrown D2 = some (Int32.ofNat 2) := by rw [← b3]; rfl
      refine am_aload_n (am_dec tmL_law_30 23 rfl) rfl rfl ?_
      refine am_aload_n (am_dec tmL_law_30 24 rfl) rfl rfl ?_
      refine am_iload (am_dec tmL_law_30 25 rfl) rfl ?_
      refine am_iconst (v := (1 : Int32)) (am_dec tmL_law_30 26 rfl) (by decide) ?_
      refine am_iadd (am_dec tmL_law_30 27 rfl) ?_
      refine am_sld (j := i + 1) hE (am_dec tmL_law_30 28 rfl) (k_iz i 1) (by omega) hL ?_
      refine am_aload_n (am_dec tmL_law_30 29 rfl) rfl rfl ?_
      refine am_iload (am_dec tmL_law_30 30 rfl) rfl ?_
      refine am_iconst (v := (2 : Int32)) (am_dec tmL_law_30 31 rfl) (by decide) ?_
      refine am_iadd (am_dec tmL_law_30 32 rfl) ?_
      refine am_sld (j := i + 2) hE (am_dec tmL_law_30 33 rfl) (k_iz i 2) (by omega) hL ?_
      refine am_aload_n (am_dec tmL_law_30 34 rfl) rfl rfl ?_
      refine am_iload (am_dec tmL_law_30 35 rfl) rfl ?_
      refine am_iconst (v := (3 : Int32)) (am_dec tmL_law_30 36 rfl) (by decide) ?_
      refine am_iadd (am_dec tmL_law_30 37 rfl) ?_
      refine am_sld (j := i + 3) hE (am_dec tmL_law_30 38 rfl) (k_iz i 3) (by omega) hL ?_
      refine am_aload_n (am_dec tmL_law_30 39 rfl) rfl rfl ?_
      refine am_iload (am_dec tmL_law_30 40 rfl) rfl ?_
      refine am_iconst (v := (4 : Int32)) (am_dec tmL_law_30 41 rfl) (by decide) ?_
      refine am_iadd (am_dec tmL_law_30 42 rfl) ?_
      refine am_sld (j := i + 4) hE (am_dec tmL_law_30 43 rfl) (k_iz i 4) (by omega) hL ?_
      refine am_aload_n (am_dec tmL_law_30 44 rfl) rfl rfl ?_
      refine am_callSH (As := [.ref 16, .int (am_x E (i + 1)), .int (am_x E (i + 2)), .int (am_x E (i + 3)), .int (am_x E (i + 4)), .ref 2637]) (st := []) (am_dec tmL_law_30 45 rfl) ok_L_peak (fun h => nomatch h) lmL_306 st_L_peak (xw_peak_2 hE b1) rfl (by decide) (Nat.le_of_ble_eq_true rfl) hc hs rfl ?_
      refine am_istore (lv' := [(0, .ref 0), (1, .ref 16), (2, .ref 117), (3, .ref 2637), (4, .int (Int32.ofNat i)), (5, .int (2 : Int32))]) (am_dec tmL_law_30 46 rfl) (by decide) rfl ?_
      refine am_aload_n (am_dec tmL_law_30 47 rfl) rfl rfl ?_
      refine am_aload_n (am_dec tmL_law_30 48 rfl) rfl rfl ?_
      refine am_iload (am_dec tmL_law_30 49 rfl) rfl ?_
      refine am_iconst (v := (1 : Int32)) (am_dec tmL_law_30 50 rfl) (by decide) ?_
      refine am_iadd (am_dec tmL_law_30 51 rfl) ?_
      refine am_sld (j := i + 1) hE (am_dec tmL_law_30 52 rfl) (k_iz i 1) (by omega) hL ?_
      refine am_aload_n (am_dec tmL_law_30 53 rfl) rfl rfl ?_
      refine am_iload (am_dec tmL_law_30 54 rfl) rfl ?_
      refine am_iconst (v := (2 : Int32)) (am_dec tmL_law_30 55 rfl) (by decide) ?_
      refine am_iadd (am_dec tmL_law_30 56 rfl) ?_
      refine am_sld (j := i + 2) hE (am_dec tmL_law_30 57 rfl) (k_iz i 2) (by omega) hL ?_
      refine am_aload_n (am_dec tmL_law_30 58 rfl) rfl rfl ?_
      refine am_iload (am_dec tmL_law_30 59 rfl) rfl ?_
      refine am_iconst (v := (3 : Int32)) (am_dec tmL_law_31 0 rfl) (by decide) ?_
      refine am_iadd (am_dec tmL_law_31 1 rfl) ?_
      refine am_sld (j := i + 3) hE (am_dec tmL_law_31 2 rfl) (k_iz i 3) (by omega) hL ?_
      refine am_aload_n (am_dec tmL_law_31 3 rfl) rfl rfl ?_
      refine am_iload (am_dec tmL_law_31 4 rfl) rfl ?_
      refine am_iconst (v := (4 : Int32)) (am_dec tmL_law_31 5 rfl) (by decide) ?_
      refine am_iadd (am_dec tmL_law_31 6 rfl) ?_
      refine am_sld (j := i + 4) hE (am_dec tmL_law_31 7 rfl) (k_iz i 4) (by omega) hL ?_
      refine am_callV1 (As := [.int (am_x E (i + 1)), .int (am_x E (i + 2)), .int (am_x E (i + 3)), .int (am_x E (i + 4))]) (st := []) hE (am_dec tmL_law_31 8 rfl) ok_X12_peak rfl lmL_308 in_X12_peak se_X12_peak sh_117 cf12 (c_X12_peak hE b2) rfl (by decide) (Nat.le_of_ble_eq_true rfl) hc hs rfl ?_
      refine am_istore (lv' := [(0, .ref 0), (1, .ref 16), (2, .ref 117), (3, .ref 2637), (4, .int (Int32.ofNat i)), (5, .int (2 : Int32)), (6, .int u)]) (am_dec tmL_law_31 9 rfl) (by decide) rfl ?_
      refine am_aload_n (am_dec tmL_law_31 10 rfl) rfl rfl ?_
      refine am_callV1 (As := []) (st := []) hE (am_dec tmL_law_31 11 rfl) ok_X12_thrown rfl lmL_169 in_X12_thrown se_X12_thrown sh_117 cf12 (c_X12_thrown hE hth) rfl (by decide) (Nat.le_of_ble_eq_true rfl) hc hs rfl ?_
      refine am_iload (am_dec tmL_law_31 12 rfl) rfl ?_
      refine am_icmp_eq (tgt := 3038) (am_dec tmL_law_31 13 rfl) (by decide) (fun _ => ?_) (fun h => absurd rfl h)
      refine am_iload (am_dec tmL_law_31 16 rfl) rfl ?_
      refine am_if_ne (tgt := 3055) (am_dec tmL_law_31 17 rfl) (by decide) (fun _ => ?_) (fun h => absurd h (by decide))
      refine am_goto (tgt := 3717) (am_dec tmL_law_31 27 rfl) (by decide) ?_
      refine am_pick [0, 1, 2, 3, 4] rfl ?_
      exact k
    · cases b0
set_option maxRecDepth 100000 in
set_option maxHeartbeats 4000000 in
theorem lw_lock {E : am_E} (hE : am_EH E) {D : am_D} (q : k_Q D D) {mc ms cu su i : Nat} (hL : am_L E ≤ 3072) (hi : i + 6 ≤ am_L E) (hc : cu + 1 ≤ mc) (hs : su + 6 ≤ ms) : ∃ D1, k_Q D1 D1 ∧ ∀ (o : am_O) (G' : am_G) (D' : am_D), am_S E mL_law 12 mc ms o G' D' (cu + 1) (su + 6) 3717 [(0, .ref 0), (1, .ref 16), (2, .ref 117), (3, .ref 2637), (4, .int (Int32.ofNat i))] [] am_G0 D1 → am_S E mL_law 12 mc ms o G' D' cu su 3058 [(0, .ref 0), (1, .ref 16), (2, .ref 117), (3, .ref 2637), (4, .int (Int32.ofNat i))] [] am_G0 D := by
  rcases k_joinE (f1 := fun D => f_X11_lock (am_x E (i + 1)) (am_x E (i + 2)) (am_x E (i + 3)) (am_x E (i + 4)) D) (f2 := fun D => f_X12_lock (am_x E (i + 1)) (am_x E (i + 2)) (am_x E (i + 3)) (am_x E (i + 4)) D) (ex := ["java/util/NoSuchElementException", "java/lang/IllegalArgumentException"]) (fun v => v.toInt64) (fun D E9 h => op_lock h (am_x E (i + 1)) (am_x E (i + 2)) (am_x E (i + 3)) (am_x E (i + 4))) q with ⟨D1, D2, v, a1, a2, a3, a4, a5⟩ | ⟨D1, D2, u, j, nm, b0, b1, b2, b3, b4⟩
  · refine ⟨D2, a4, fun o G' D' k => ?_⟩
    have hth : f_X12_thrown D2 = some (0 : Int32) := by rw [← a3]; rfl
    have hld : am_gL D2 2637 1 0 = some (D2.2 2637 0) := k_gl (k := 0) (by decide) (by decide)
    have hcu : ∀ _ : Unit, cu + 1 ≤ mc := fun _ => hc
    have hsu : ∀ _ : Unit, su + 6 ≤ ms := fun _ => hs
    refine am_aload_n (am_dec tmL_law_31 28 rfl) rfl rfl ?_
    refine am_aload_n (am_dec tmL_law_31 29 rfl) rfl rfl ?_
    refine am_iload (am_dec tmL_law_31 30 rfl) rfl ?_
    refine am_iconst (v := (1 : Int32)) (am_dec tmL_law_31 31 rfl) (by decide) ?_
    refine am_iadd (am_dec tmL_law_31 32 rfl) ?_
    refine am_sld (j := i + 1) hE (am_dec tmL_law_31 33 rfl) (k_iz i 1) (by omega) hL ?_
    refine am_aload_n (am_dec tmL_law_31 34 rfl) rfl rfl ?_
    refine am_iload (am_dec tmL_law_31 35 rfl) rfl ?_
    refine am_iconst (v := (2 : Int32)) (am_dec tmL_law_31 36 rfl) (by decide) ?_
    refine am_iadd (am_dec tmL_law_31 37 rfl) ?_
    refine am_sld (j := i + 2) hE (am_dec tmL_law_31 38 rfl) (k_iz i 2) (by omega) hL ?_
    refine am_aload_n (am_dec tmL_law_31 39 rfl) rfl rfl ?_
    refine am_iload (am_dec tmL_law_31 40 rfl) rfl ?_
    refine am_iconst (v := (3 : Int32)) (am_dec tmL_law_31 41 rfl) (by decide) ?_
    refine am_iadd (am_dec tmL_law_31 42 rfl) ?_
    refine am_sld (j := i + 3) hE (am_dec tmL_law_31 43 rfl) (k_iz i 3) (by omega) hL ?_
    refine am_aload_n (am_dec tmL_law_31 44 rfl) rfl rfl ?_
    refine am_iload (am_dec tmL_law_31 45 rfl) rfl ?_
    refine am_iconst (v := (4 : Int32)) (am_dec tmL_law_31 46 rfl) (by decide) ?_
    refine am_iadd (am_dec tmL_law_31 47 rfl) ?_
    refine am_sld (j := i + 4) hE (am_dec tmL_law_31 48 rfl) (k_iz i 4) (by omega) hL ?_
    refine am_aload_n (am_dec tmL_law_31 49 rfl) rfl rfl ?_
    refine am_callSH (As := [.ref 16, .int (am_x E (i + 1)), .int (am_x E (i + 2)), .int (am_x E (i + 3)), .int (am_x E (i + 4)), .ref 2637]) (st := []) (am_dec tmL_law_31 50 rfl) ok_L_lock (fun h => nomatch h) lmL_309 st_L_lock (cw_lock hE a1) rfl (by decide) (Nat.le_of_ble_eq_true rfl) hc hs rfl ?_
    refine am_istore (lv' := [(0, .ref 0), (1, .ref 16), (2, .ref 117), (3, .ref 2637), (4, .int (Int32.ofNat i)), (5, .int (0 : Int32))]) (am_dec tmL_law_31 51 rfl) (by decide) rfl ?_
    refine am_aload_n (am_dec tmL_law_31 52 rfl) rfl rfl ?_
    refine am_aload_n (am_dec tmL_law_31 53 rfl) rfl rfl ?_
    refine am_iload (am_dec tmL_law_31 54 rfl) rfl ?_
    refine am_iconst (v := (1 : Int32)) (am_dec tmL_law_31 55 rfl) (by decide) ?_
    refine am_iadd (am_dec tmL_law_31 56 rfl) ?_
    refine am_sld (j := i + 1) hE (am_dec tmL_law_31 57 rfl) (k_iz i 1) (by omega) hL ?_
    refine am_aload_n (am_dec tmL_law_31 58 rfl) rfl rfl ?_
    refine am_iload (am_dec tmL_law_31 59 rfl) rfl ?_
    refine am_iconst (v := (2 : Int32)) (am_dec tmL_law_32 0 rfl) (by decide) ?_
    refine am_iadd (am_dec tmL_law_32 1 rfl) ?_
    refine am_sld (j := i + 2) hE (am_dec tmL_law_32 2 rfl) (k_iz i 2) (by omega) hL ?_
    refine am_aload_n (am_dec tmL_law_32 3 rfl) rfl rfl ?_
    refine am_iload (am_dec tmL_law_32 4 rfl) rfl ?_
    refine am_iconst (v := (3 : Int32)) (am_dec tmL_law_32 5 rfl) (by decide) ?_
    refine am_iadd (am_dec tmL_law_32 6 rfl) ?_
    refine am_sld (j := i + 3) hE (am_dec tmL_law_32 7 rfl) (k_iz i 3) (by omega) hL ?_
    refine am_aload_n (am_dec tmL_law_32 8 rfl) rfl rfl ?_
    refine am_iload (am_dec tmL_law_32 9 rfl) rfl ?_
    refine am_iconst (v := (4 : Int32)) (am_dec tmL_law_32 10 rfl) (by decide) ?_
    refine am_iadd (am_dec tmL_law_32 11 rfl) ?_
    refine am_sld (j := i + 4) hE (am_dec tmL_law_32 12 rfl) (k_iz i 4) (by omega) hL ?_
    refine am_callV1 (As := [.int (am_x E (i + 1)), .int (am_x E (i + 2)), .int (am_x E (i + 3)), .int (am_x E (i + 4))]) (st := []) hE (am_dec tmL_law_32 13 rfl) ok_X12_lock rfl lmL_311 in_X12_lock se_X12_lock sh_117 cf12 (c_X12_lock hE a2) rfl (by decide) (Nat.le_of_ble_eq_true rfl) hc hs rfl ?_
    refine am_istore (lv' := [(0, .ref 0), (1, .ref 16), (2, .ref 117), (3, .ref 2637), (4, .int (Int32.ofNat i)), (5, .int (0 : Int32)), (6, .int v)]) (am_dec tmL_law_32 14 rfl) (by decide) rfl ?_
    refine am_aload_n (am_dec tmL_law_32 15 rfl) rfl rfl ?_
    refine am_callV1 (As := []) (st := []) hE (am_dec tmL_law_32 16 rfl) ok_X12_thrown rfl lmL_169 in_X12_thrown se_X12_thrown sh_117 cf12 (c_X12_thrown hE hth) rfl (by decide) (Nat.le_of_ble_eq_true rfl) hc hs rfl ?_
    refine am_iload (am_dec tmL_law_32 17 rfl) rfl ?_
    refine am_icmp_eq (tgt := 3130) (am_dec tmL_law_32 18 rfl) (by decide) (fun _ => ?_) (fun h => absurd rfl h)
    refine am_iload (am_dec tmL_law_32 21 rfl) rfl ?_
    refine am_if_ne (tgt := 3147) (am_dec tmL_law_32 22 rfl) (by decide) (fun h => absurd rfl h) (fun _ => ?_)
    refine am_aload_n (am_dec tmL_law_32 23 rfl) rfl rfl ?_
    refine am_iconst (v := (0 : Int32)) (am_dec tmL_law_32 24 rfl) (by decide) ?_
    refine am_lald2 (n := 1) (i := 0) (v := v.toInt64) hE (am_dec tmL_law_32 25 rfl) shq_2637 (hld.trans (congrArg some a5)) ?_
    refine am_iload (am_dec tmL_law_32 26 rfl) rfl ?_
    refine am_i2l (am_dec tmL_law_32 27 rfl) ?_
    refine am_lcmp (am_dec tmL_law_32 28 rfl) ?_
    refine am_if_eq (tgt := 3147) (am_dec tmL_law_32 29 rfl) (by decide) (fun _ => ?_) (fun h => absurd (k_cmp _) h)
    refine am_goto (tgt := 3717) (am_dec tmL_law_32 32 rfl) (by decide) ?_
    refine am_pick [0, 1, 2, 3, 4] rfl ?_
    exact k
  · rcases j with _ | _ | j
    · cases b0
      refine ⟨D2, b4, fun o G' D' k => ?_⟩
      have hth : f_X12_thrown D2 = some (Int32.ofNat 1) := by rw [← b3]; rfl
      refine am_aload_n (am_dec tmL_law_31 28 rfl) rfl rfl ?_
      refine am_aload_n (am_dec tmL_law_31 29 rfl) rfl rfl ?_
      refine am_iload (am_dec tmL_law_31 30 rfl) rfl ?_
      refine am_iconst (v := (1 : Int32)) (am_dec tmL_law_31 31 rfl) (by decide) ?_
      refine am_iadd (am_dec tmL_law_31 32 rfl) ?_
      refine am_sld (j := i + 1) hE (am_dec tmL_law_31 33 rfl) (k_iz i 1) (by omega) hL ?_
      refine am_aload_n (am_dec tmL_law_31 34 rfl) rfl rfl ?_
      refine am_iload (am_dec tmL_law_31 35 rfl) rfl ?_
      refine am_iconst (v := (2 : Int32)) (am_dec tmL_law_31 36 rfl) (by decide) ?_
      refine am_iadd (am_dec tmL_law_31 37 rfl) ?_
      refine am_sld (j := i + 2) hE (am_dec tmL_law_31 38 rfl) (k_iz i 2) (by omega) hL ?_
      refine am_aload_n (am_dec tmL_law_31 39 rfl) rfl rfl ?_
      refine am_iload (am_dec tmL_law_31 40 rfl) rfl ?_
      refine am_iconst (v := (3 : Int32)) (am_dec tmL_law_31 41 rfl) (by decide) ?_
      refine am_iadd (am_dec tmL_law_31 42 rfl) ?_
      refine am_sld (j := i + 3) hE (am_dec tmL_law_31 43 rfl) (k_iz i 3) (by omega) hL ?_
      refine am_aload_n (am_dec tmL_law_31 44 rfl) rfl rfl ?_
      refine am_iload (am_dec tmL_law_31 45 rfl) rfl ?_
      refine am_iconst (v := (4 : Int32)) (am_dec tmL_law_31 46 rfl) (by decide) ?_
      refine am_iadd (am_dec tmL_law_31 47 rfl) ?_
      refine am_sld (j := i + 4) hE (am_dec tmL_law_31 48 rfl) (k_iz i 4) (by omega) hL ?_
      refine am_aload_n (am_dec tmL_law_31 49 rfl) rfl rfl ?_
      refine am_callSH (As := [.ref 16, .int (am_x E (i + 1)), .int (am_x E (i + 2)), .int (am_x E (i + 3)), .int (am_x E (i + 4)), .ref 2637]) (st := []) (am_dec tmL_law_31 50 rfl) ok_L_lock (fun h => nomatch h) lmL_309 st_L_lock (xw_lock_1 hE b1) rfl (by decide) (Nat.le_of_ble_eq_true rfl) hc hs rfl ?_
      refine am_istore (lv' := [(0, .ref 0), (1, .ref 16), (2, .ref 117), (3, .ref 2637), (4, .int (Int32.ofNat i)), (5, .int (1 : Int32))]) (am_dec tmL_law_31 51 rfl) (by decide) rfl ?_
      refine am_aload_n (am_dec tmL_law_31 52 rfl) rfl rfl ?_
      refine am_aload_n (am_dec tmL_law_31 53 rfl) rfl rfl ?_
      refine am_iload (am_dec tmL_law_31 54 rfl) rfl ?_
      refine am_iconst (v := (1 : Int32)) (am_dec tmL_law_31 55 rfl) (by decide) ?_
      refine am_iadd (am_dec tmL_law_31 56 rfl) ?_
      refine am_sld (j := i + 1) hE (am_dec tmL_law_31 57 rfl) (k_iz i 1) (by omega) hL ?_
      refine am_aload_n (am_dec tmL_law_31 58 rfl) rfl rfl ?_
      refine am_iload (am_dec tmL_law_31 59 rfl) rfl ?_
      refine am_iconst (v := (2 : Int32)) (am_dec tmL_law_32 0 rfl) (by decide) ?_
      refine am_iadd (am_dec tmL_law_32 1 rfl) ?_
      refine am_sld (j := i + 2) hE (am_dec tmL_law_32 2 rfl) (k_iz i 2) (by omega) hL ?_
      refine am_aload_n (am_dec tmL_law_32 3 rfl) rfl rfl ?_
      refine am_iload (am_dec tmL_law_32 4 rfl) rfl ?_
      refine am_iconst (v := (3 : Int32)) (am_dec tmL_law_32 5 rfl) (by decide) ?_
      refine am_iadd (am_dec tmL_law_32 6 rfl) ?_
      refine am_sld (j := i + 3) hE (am_dec tmL_law_32 7 rfl) (k_iz i 3) (by omega) hL ?_
      refine am_aload_n (am_dec tmL_law_32 8 rfl) rfl rfl ?_
      refine am_iload (am_dec tmL_law_32 9 rfl) rfl ?_
      refine am_iconst (v := (4 : Int32)) (am_dec tmL_law_32 10 rfl) (by decide) ?_
      refine am_iadd (am_dec tmL_law_32 11 rfl) ?_
      refine am_sld (j := i + 4) hE (am_dec tmL_law_32 12 rfl) (k_iz i 4) (by omega) hL ?_
      refine am_callV1 (As := [.int (am_x E (i + 1)), .int (am_x E (i + 2)), .int (am_x E (i + 3)), .int (am_x E (i + 4))]) (st := []) hE (am_dec tmL_law_32 13 rfl) ok_X12_lock rfl lmL_311 in_X12_lock se_X12_lock sh_117 cf12 (c_X12_lock hE b2) rfl (by decide) (Nat.le_of_ble_eq_true rfl) hc hs rfl ?_
      refine am_istore (lv' := [(0, .ref 0), (1, .ref 16), (2, .ref 117), (3, .ref 2637), (4, .int (Int32.ofNat i)), (5, .int (1 : Int32)), (6, .int u)]) (am_dec tmL_law_32 14 rfl) (by decide) rfl ?_
      refine am_aload_n (am_dec tmL_law_32 15 rfl) rfl rfl ?_
      refine am_callV1 (As := []) (st := []) hE (am_dec tmL_law_32 16 rfl) ok_X12_thrown rfl lmL_169 in_X12_thrown se_X12_thrown sh_117 cf12 (c_X12_thrown hE hth) rfl (by decide) (Nat.le_of_ble_eq_true rfl) hc hs rfl ?_
      refine am_iload (am_dec tmL_law_32 17 rfl) rfl ?_
      refine am_icmp_eq (tgt := 3130) (am_dec tmL_law_32 18 rfl) (by decide) (fun _ => ?_) (fun h => absurd rfl h)
      refine am_iload (am_dec tmL_law_32 21 rfl) rfl ?_
      refine am_if_ne (tgt := 3147) (am_dec tmL_law_32 22 rfl) (by decide) (fun _ => ?_) (fun h => absurd h (by decide))
      refine am_goto (tgt := 3717) (am_dec tmL_law_32 32 rfl) (by decide) ?_
      refine am_pick [0, 1, 2, 3, 4] rfl ?_
      exact k
    · cases b0
      refine ⟨D2, b4, fun o G' D' k => ?_⟩
      have hth : f_X12_thrown D2 = some (Int32.ofNat 2) := by rw [← b3]; rfl
      refine am_aload_n (am_dec tmL_law_31 28 rfl) rfl rfl ?_
      refine am_aload_n (am_dec tmL_law_31 29 rfl) rfl rfl ?_
      refine am_iload (am_dec tmL_law_31 30 rfl) rfl ?_
      refine am_iconst (v := (1 : Int32)) (am_dec tmL_law_31 31 rfl) (by decide) ?_
      refine am_iadd (am_dec tmL_law_31 32 rfl) ?_
      refine am_sld (j := i + 1) hE (am_dec tmL_law_31 33 rfl) (k_iz i 1) (by omega) hL ?_
      refine am_aload_n (am_dec tmL_law_31 34 rfl) rfl rfl ?_
      refine am_iload (am_dec tmL_law_31 35 rfl) rfl ?_
      refine am_iconst (v := (2 : Int32)) (am_dec tmL_law_31 36 rfl) (by decide) ?_
      refine am_iadd (am_dec tmL_law_31 37 rfl) ?_
      refine am_sld (j := i + 2) hE (am_dec tmL_law_31 38 rfl) (k_iz i 2) (by omega) hL ?_
      refine am_aload_n (am_dec tmL_law_31 39 rfl) rfl rfl ?_
      refine am_iload (am_dec tmL_law_31 40 rfl) rfl ?_
      refine am_iconst (v := (3 : Int32)) (am_dec tmL_law_31 41 rfl) (by decide) ?_
      refine am_iadd (am_dec tmL_law_31 42 rfl) ?_
      refine am_sld (j := i + 3) hE (am_dec tmL_law_31 43 rfl) (k_iz i 3) (by omega) hL ?_
      refine am_aload_n (am_dec tmL_law_31 44 rfl) rfl rfl ?_
      refine am_iload (am_dec tmL_law_31 45 rfl) rfl ?_
      refine am_iconst (v := (4 : Int32)) (am_dec tmL_law_31 46 rfl) (by decide) ?_
      refine am_iadd (am_dec tmL_law_31 47 rfl) ?_
      refine am_sld (j := i + 4) hE (am_dec tmL_law_31 48 rfl) (k_iz i 4) (by omega) hL ?_
      refine am_aload_n (am_dec tmL_law_31 49 rfl) rfl rfl ?_
      refine am_callSH (As := [.ref 16, .int (am_x E (i + 1)), .int (am_x E (i + 2)), .int (am_x E (i + 3)), .int (am_x E (i + 4)), .ref 2637]) (st := []) (am_dec tmL_law_31 50 rfl) ok_L_lock (fun h => nomatch h) lmL_309 st_L_lock (xw_lock_2 hE b1) rfl (by decide) (Nat.le_of_ble_eq_true rfl) hc hs rfl ?_
      refine am_istore (lv' := [(0, .ref 0), (1, .ref 16), (2, .ref 117), (3, .ref 2637), (4, .int (Int32.ofNat i)), (5, .int (2 : Int32))]) (am_dec tmL_law_31 51 rfl) (by decide) rfl ?_
      refine am_aload_n (am_dec tmL_law_31 52 rfl) rfl rfl ?_
      refine am_aload_n (am_dec tmL_law_31 53 rfl) rfl rfl ?_
      refine am_iload (am_dec tmL_law_31 54 rfl) rfl ?_
      refine am_iconst (v := (1 : Int32)) (am_dec tmL_law_31 55 rfl) (by decide) ?_
      refine am_iadd (am_dec tmL_law_31 56 rfl) ?_
      refine am_sld (j := i + 1) hE (am_dec tmL_law_31 57 rfl) (k_iz i 1) (by omega) hL ?_
      refine am_aload_n (am_dec tmL_law_31 58 rfl) rfl rfl ?_
      refine am_iload (am_dec tmL_law_31 59 rfl) rfl ?_
      refine am_iconst (v := (2 : Int32)) (am_dec tmL_law_32 0 rfl) (by decide) ?_
      refine am_iadd (am_dec tmL_law_32 1 rfl) ?_
      refine am_sld (j := i + 2) hE (am_dec tmL_law_32 2 rfl) (k_iz i 2) (by omega) hL ?_
      refine am_aload_n (am_dec tmL_law_32 3 rfl) rfl rfl ?_
      refine am_iload (am_dec tmL_law_32 4 rfl) rfl ?_
      refine am_iconst (v := (3 : Int32)) (am_dec tmL_law_32 5 rfl) (by decide) ?_
      refine am_iadd (am_dec tmL_law_32 6 rfl) ?_
      refine am_sld (j := i + 3) hE (am_dec tmL_law_32 7 rfl) (k_iz i 3) (by omega) hL ?_
      refine am_aload_n (am_dec tmL_law_32 8 rfl) rfl rfl ?_
      refine am_iload (am_dec tmL_law_32 9 rfl) rfl ?_
      refine am_iconst (v := (4 : Int32)) (am_dec tmL_law_32 10 rfl) (by decide) ?_
      refine am_iadd (am_dec tmL_law_32 11 rfl) ?_
      refine am_sld (j := i + 4) hE (am_dec tmL_law_32 12 rfl) (k_iz i 4) (by omega) hL ?_
      refine am_callV1 (As := [.int (am_x E (i + 1)), .int (am_x E (i + 2)), .int (am_x E (i + 3)), .int (am_x E (i + 4))]) (st := []) hE (am_dec tmL_law_32 13 rfl) ok_X12_lock rfl lmL_311 in_X12_lock se_X12_lock sh_117 cf12 (c_X12_lock hE b2) rfl (by decide) (Nat.le_of_ble_eq_true rfl) hc hs rfl ?_
      refine am_istore (lv' := [(0, .ref 0), (1, .ref 16), (2, .ref 117), (3, .ref 2637), (4, .int (Int32.ofNat i)), (5, .int (2 : Int32)), (6, .int u)]) (am_dec tmL_law_32 14 rfl) (by decide) rfl ?_
      refine am_aload_n (am_dec tmL_law_32 15 rfl) rfl rfl ?_
      refine am_callV1 (As := []) (st := []) hE (am_dec tmL_law_32 16 rfl) ok_X12_thrown rfl lmL_169 in_X12_thrown se_X12_thrown sh_117 cf12 (c_X12_thrown hE hth) rfl (by decide) (Nat.le_of_ble_eq_true rfl) hc hs rfl ?_
      refine am_iload (am_dec tmL_law_32 17 rfl) rfl ?_
      refine am_icmp_eq (tgt := 3130) (am_dec tmL_law_32 18 rfl) (by decide) (fun _ => ?_) (fun h => absurd rfl h)
      refine am_iload (am_dec tmL_law_32 21 rfl) rfl ?_
      refine am_if_ne (tgt := 3147) (am_dec tmL_law_32 22 rfl) (by decide) (fun _ => ?_) (fun h => absurd h (by decide))
      refine am_goto (tgt := 3717) (am_dec tmL_law_32 32 rfl) (by decide) ?_
      refine am_pick [0, 1, 2, 3, 4] rfl ?_
      exact k
    · cases b0
set_option maxRecDepth 100000 in
set_option maxHeartbeats 4000000 in
theorem lw_steady {E : am_E} (hE : am_EH E) {D : am_D} (q : k_Q D D) {mc ms cu su i : Nat} (hL : am_L E ≤ 3072) (hi : i + 6 ≤ am_L E) (hc : cu + 1 ≤ mc) (hs : su + 6 ≤ ms) : ∃ D1, k_Q D1 D1 ∧ ∀ (o : am_O) (G' : am_G) (D' : am_D), am_S E mL_law 12 mc ms o G' D' (cu + 1) (su + 6) 3717 [(0, .ref 0), (1, .ref 16), (2, .ref 117), (3, .ref 2637), (4, .int (Int32.ofNat i))] [] am_G0 D1 → am_S E mL_law 12 mc ms o G' D' cu su 3150 [(0, .ref 0), (1, .ref 16), (2, .ref 117), (3, .ref 2637), (4, .int (Int32.ofNat i))] [] am_G0 D := by
  rcases k_joinE (f1 := fun D => f_X11_steady (am_x E (i + 1)) D) (f2 := fun D => f_X12_steady (am_x E (i + 1)) D) (ex := ["java/util/NoSuchElementException"]) (fun v => v.toInt64) (fun D E9 h => op_steady h (am_x E (i + 1))) q with ⟨D1, D2, v, a1, a2, a3, a4, a5⟩ | ⟨D1, D2, u, j, nm, b0, b1, b2, b3, b4⟩
  · refine ⟨D2, a4, fun o G' D' k => ?_⟩
    have hth : f_X12_thrown D2 = some (0 : Int32) := by rw [← a3]; rfl
    have hld : am_gL D2 2637 1 0 = some (D2.2 2637 0) := k_gl (k := 0) (by decide) (by decide)
    have hcu : ∀ _ : Unit, cu + 1 ≤ mc := fun _ => hc
    have hsu : ∀ _ : Unit, su + 6 ≤ ms := fun _ => hs
    refine am_aload_n (am_dec tmL_law_32 33 rfl) rfl rfl ?_
    refine am_aload_n (am_dec tmL_law_32 34 rfl) rfl rfl ?_
    refine am_iload (am_dec tmL_law_32 35 rfl) rfl ?_
    refine am_iconst (v := (1 : Int32)) (am_dec tmL_law_32 36 rfl) (by decide) ?_
    refine am_iadd (am_dec tmL_law_32 37 rfl) ?_
    refine am_sld (j := i + 1) hE (am_dec tmL_law_32 38 rfl) (k_iz i 1) (by omega) hL ?_
    refine am_aload_n (am_dec tmL_law_32 39 rfl) rfl rfl ?_
    refine am_callSH (As := [.ref 16, .int (am_x E (i + 1)), .ref 2637]) (st := []) (am_dec tmL_law_32 40 rfl) ok_L_steady (fun h => nomatch h) lmL_312 st_L_steady (cw_steady hE a1) rfl (by decide) (Nat.le_of_ble_eq_true rfl) hc hs rfl ?_
    refine am_istore (lv' := [(0, .ref 0), (1, .ref 16), (2, .ref 117), (3, .ref 2637), (4, .int (Int32.ofNat i)), (5, .int (0 : Int32))]) (am_dec tmL_law_32 41 rfl) (by decide) rfl ?_
    refine am_aload_n (am_dec tmL_law_32 42 rfl) rfl rfl ?_
    refine am_aload_n (am_dec tmL_law_32 43 rfl) rfl rfl ?_
    refine am_iload (am_dec tmL_law_32 44 rfl) rfl ?_
    refine am_iconst (v := (1 : Int32)) (am_dec tmL_law_32 45 rfl) (by decide) ?_
    refine am_iadd (am_dec tmL_law_32 46 rfl) ?_
    refine am_sld (j := i + 1) hE (am_dec tmL_law_32 47 rfl) (k_iz i 1) (by omega) hL ?_
    refine am_callV1 (As := [.int (am_x E (i + 1))]) (st := []) hE (am_dec tmL_law_32 48 rfl) ok_X12_steady rfl lmL_314 in_X12_steady se_X12_steady sh_117 cf12 (c_X12_steady hE a2) rfl (by decide) (Nat.le_of_ble_eq_true rfl) hc hs rfl ?_
    refine am_istore (lv' := [(0, .ref 0), (1, .ref 16), (2, .ref 117), (3, .ref 2637), (4, .int (Int32.ofNat i)), (5, .int (0 : Int32)), (6, .int v)]) (am_dec tmL_law_32 49 rfl) (by decide) rfl ?_
    refine am_aload_n (am_dec tmL_law_32 50 rfl) rfl rfl ?_
    refine am_callV1 (As := []) (st := []) hE (am_dec tmL_law_32 51 rfl) ok_X12_thrown rfl lmL_169 in_X12_thrown se_X12_thrown sh_117 cf12 (c_X12_thrown hE hth) rfl (by decide) (Nat.le_of_ble_eq_true rfl) hc hs rfl ?_
    refine am_iload (am_dec tmL_law_32 52 rfl) rfl ?_
    refine am_icmp_eq (tgt := 3186) (am_dec tmL_law_32 53 rfl) (by decide) (fun _ => ?_) (fun h => absurd rfl h)
    refine am_iload (am_dec tmL_law_32 56 rfl) rfl ?_
    refine am_if_ne (tgt := 3203) (am_dec tmL_law_32 57 rfl) (by decide) (fun h => absurd rfl h) (fun _ => ?_)
    refine am_aload_n (am_dec tmL_law_32 58 rfl) rfl rfl ?_
    refine am_iconst (v := (0 : Int32)) (am_dec tmL_law_32 59 rfl) (by decide) ?_
    refine am_lald2 (n := 1) (i := 0) (v := v.toInt64) hE (am_dec tmL_law_33 0 rfl) shq_2637 (hld.trans (congrArg some a5)) ?_
    refine am_iload (am_dec tmL_law_33 1 rfl) rfl ?_
    refine am_i2l (am_dec tmL_law_33 2 rfl) ?_
    refine am_lcmp (am_dec tmL_law_33 3 rfl) ?_
    refine am_if_eq (tgt := 3203) (am_dec tmL_law_33 4 rfl) (by decide) (fun _ => ?_) (fun h => absurd (k_cmp _) h)
    refine am_goto (tgt := 3717) (am_dec tmL_law_33 7 rfl) (by decide) ?_
    refine am_pick [0, 1, 2, 3, 4] rfl ?_
    exact k
  · rcases j with _ | j
    · cases b0
      refine ⟨D2, b4, fun o G' D' k => ?_⟩
      have hth : f_X12_thrown D2 = some (Int32.ofNat 1) := by rw [← b3]; rfl
      refine am_aload_n (am_dec tmL_law_32 33 rfl) rfl rfl ?_
      refine am_aload_n (am_dec tmL_law_32 34 rfl) rfl rfl ?_
      refine am_iload (am_dec tmL_law_32 35 rfl) rfl ?_
      refine am_iconst (v := (1 : Int32)) (am_dec tmL_law_32 36 rfl) (by decide) ?_
      refine am_iadd (am_dec tmL_law_32 37 rfl) ?_
      refine am_sld (j := i + 1) hE (am_dec tmL_law_32 38 rfl) (k_iz i 1) (by omega) hL ?_
      refine am_aload_n (am_dec tmL_law_32 39 rfl) rfl rfl ?_
      refine am_callSH (As := [.ref 16, .int (am_x E (i + 1)), .ref 2637]) (st := []) (am_dec tmL_law_32 40 rfl) ok_L_steady (fun h => nomatch h) lmL_312 st_L_steady (xw_steady_1 hE b1) rfl (by decide) (Nat.le_of_ble_eq_true rfl) hc hs rfl ?_
      refine am_istore (lv' := [(0, .ref 0), (1, .ref 16), (2, .ref 117), (3, .ref 2637), (4, .int (Int32.ofNat i)), (5, .int (1 : Int32))]) (am_dec tmL_law_32 41 rfl) (by decide) rfl ?_
      refine am_aload_n (am_dec tmL_law_32 42 rfl) rfl rfl ?_
      refine am_aload_n (am_dec tmL_law_32 43 rfl) rfl rfl ?_
      refine am_iload (am_dec tmL_law_32 44 rfl) rfl ?_
      refine am_iconst (v := (1 : Int32)) (am_dec tmL_law_32 45 rfl) (by decide) ?_
      refine am_iadd (am_dec tmL_law_32 46 rfl) ?_
      refine am_sld (j := i + 1) hE (am_dec tmL_law_32 47 rfl) (k_iz i 1) (by omega) hL ?_
      refine am_callV1 (As := [.int (am_x E (i + 1))]) (st := []) hE (am_dec tmL_law_32 48 rfl) ok_X12_steady rfl lmL_314 in_X12_steady se_X12_steady sh_117 cf12 (c_X12_steady hE b2) rfl (by decide) (Nat.le_of_ble_eq_true rfl) hc hs rfl ?_
      refine am_istore (lv' := [(0, .ref 0), (1, .ref 16), (2, .ref 117), (3, .ref 2637), (4, .int (Int32.ofNat i)), (5, .int (1 : Int32)), (6, .int u)]) (am_dec tmL_law_32 49 rfl) (by decide) rfl ?_
      refine am_aload_n (am_dec tmL_law_32 50 rfl) rfl rfl ?_
      refine am_callV1 (As := []) (st := []) hE (am_dec tmL_law_32 51 rfl) ok_X12_thrown rfl lmL_169 in_X12_thrown se_X12_thrown sh_117 cf12 (c_X12_thrown hE hth) rfl (by decide) (Nat.le_of_ble_eq_true rfl) hc hs rfl ?_
      refine am_iload (am_dec tmL_law_32 52 rfl) rfl ?_
      refine am_icmp_eq (tgt := 3186) (am_dec tmL_law_32 53 rfl) (by decide) (fun _ => ?_) (fun h => absurd rfl h)
      refine am_iload (am_dec tmL_law_32 56 rfl) rfl ?_
      refine am_if_ne (tgt := 3203) (am_dec tmL_law_32 57 rfl) (by decide) (fun _ => ?_) (fun h => absurd h (by decide))
      refine am_goto (tgt := 3717) (am_dec tmL_law_33 7 rfl) (by decide) ?_
      refine am_pick [0, 1, 2, 3, 4] rfl ?_
      exact k
    · cases b0
set_option maxRecDepth 100000 in
set_option maxHeartbeats 4000000 in
theorem lw_film {E : am_E} (hE : am_EH E) {D : am_D} (q : k_Q D D) {mc ms cu su i : Nat} (hL : am_L E ≤ 3072) (hi : i + 6 ≤ am_L E) (hc : cu + 1 ≤ mc) (hs : su + 6 ≤ ms) : ∃ D1, k_Q D1 D1 ∧ ∀ (o : am_O) (G' : am_G) (D' : am_D), am_S E mL_law 12 mc ms o G' D' (cu + 1) (su + 6) 3717 [(0, .ref 0), (1, .ref 16), (2, .ref 117), (3, .ref 2637), (4, .int (Int32.ofNat i))] [] am_G0 D1 → am_S E mL_law 12 mc ms o G' D' cu su 3206 [(0, .ref 0), (1, .ref 16), (2, .ref 117), (3, .ref 2637), (4, .int (Int32.ofNat i))] [] am_G0 D := by
  rcases k_joinE (f1 := fun D => f_X11_film (am_x E (i + 1)) (am_x E (i + 2)) (am_x E (i + 3)) D) (f2 := fun D => f_X12_film (am_x E (i + 1)) (am_x E (i + 2)) (am_x E (i + 3)) D) (ex := ["java/util/NoSuchElementException", "java/lang/IllegalArgumentException"]) (fun v => v.toInt64) (fun D E9 h => op_film h (am_x E (i + 1)) (am_x E (i + 2)) (am_x E (i + 3))) q with ⟨D1, D2, v, a1, a2, a3, a4, a5⟩ | ⟨D1, D2, u, j, nm, b0, b1, b2, b3, b4⟩
  · refine ⟨D2, a4, fun o G' D' k => ?_⟩
    have hth : f_X12_thrown D2 = some (0 : Int32) := by rw [← a3]; rfl
    have hld : am_gL D2 2637 1 0 = some (D2.2 2637 0) := k_gl (k := 0) (by decide) (by decide)
    have hcu : ∀ _ : Unit, cu + 1 ≤ mc := fun _ => hc
    have hsu : ∀ _ : Unit, su + 6 ≤ ms := fun _ => hs
    refine am_aload_n (am_dec tmL_law_33 8 rfl) rfl rfl ?_
    refine am_aload_n (am_dec tmL_law_33 9 rfl) rfl rfl ?_
    refine am_iload (am_dec tmL_law_33 10 rfl) rfl ?_
    refine am_iconst (v := (1 : Int32)) (am_dec tmL_law_33 11 rfl) (by decide) ?_
    refine am_iadd (am_dec tmL_law_33 12 rfl) ?_
    refine am_sld (j := i + 1) hE (am_dec tmL_law_33 13 rfl) (k_iz i 1) (by omega) hL ?_
    refine am_aload_n (am_dec tmL_law_33 14 rfl) rfl rfl ?_
    refine am_iload (am_dec tmL_law_33 15 rfl) rfl ?_
    refine am_iconst (v := (2 : Int32)) (am_dec tmL_law_33 16 rfl) (by decide) ?_
    refine am_iadd (am_dec tmL_law_33 17 rfl) ?_
    refine am_sld (j := i + 2) hE (am_dec tmL_law_33 18 rfl) (k_iz i 2) (by omega) hL ?_
    refine am_aload_n (am_dec tmL_law_33 19 rfl) rfl rfl ?_
    refine am_iload (am_dec tmL_law_33 20 rfl) rfl ?_
    refine am_iconst (v := (3 : Int32)) (am_dec tmL_law_33 21 rfl) (by decide) ?_
    refine am_iadd (am_dec tmL_law_33 22 rfl) ?_
    refine am_sld (j := i + 3) hE (am_dec tmL_law_33 23 rfl) (k_iz i 3) (by omega) hL ?_
    refine am_aload_n (am_dec tmL_law_33 24 rfl) rfl rfl ?_
    refine am_callSH (As := [.ref 16, .int (am_x E (i + 1)), .int (am_x E (i + 2)), .int (am_x E (i + 3)), .ref 2637]) (st := []) (am_dec tmL_law_33 25 rfl) ok_L_film (fun h => nomatch h) lmL_315 st_L_film (cw_film hE a1) rfl (by decide) (Nat.le_of_ble_eq_true rfl) hc hs rfl ?_
    refine am_istore (lv' := [(0, .ref 0), (1, .ref 16), (2, .ref 117), (3, .ref 2637), (4, .int (Int32.ofNat i)), (5, .int (0 : Int32))]) (am_dec tmL_law_33 26 rfl) (by decide) rfl ?_
    refine am_aload_n (am_dec tmL_law_33 27 rfl) rfl rfl ?_
    refine am_aload_n (am_dec tmL_law_33 28 rfl) rfl rfl ?_
    refine am_iload (am_dec tmL_law_33 29 rfl) rfl ?_
    refine am_iconst (v := (1 : Int32)) (am_dec tmL_law_33 30 rfl) (by decide) ?_
    refine am_iadd (am_dec tmL_law_33 31 rfl) ?_
    refine am_sld (j := i + 1) hE (am_dec tmL_law_33 32 rfl) (k_iz i 1) (by omega) hL ?_
    refine am_aload_n (am_dec tmL_law_33 33 rfl) rfl rfl ?_
    refine am_iload (am_dec tmL_law_33 34 rfl) rfl ?_
    refine am_iconst (v := (2 : Int32)) (am_dec tmL_law_33 35 rfl) (by decide) ?_
    refine am_iadd (am_dec tmL_law_33 36 rfl) ?_
    refine am_sld (j := i + 2) hE (am_dec tmL_law_33 37 rfl) (k_iz i 2) (by omega) hL ?_
    refine am_aload_n (am_dec tmL_law_33 38 rfl) rfl rfl ?_
    refine am_iload (am_dec tmL_law_33 39 rfl) rfl ?_
    refine am_iconst (v := (3 : Int32)) (am_dec tmL_law_33 40 rfl) (by decide) ?_
    refine am_iadd (am_dec tmL_law_33 41 rfl) ?_
    refine am_sld (j := i + 3) hE (am_dec tmL_law_33 42 rfl) (k_iz i 3) (by omega) hL ?_
    refine am_callV1 (As := [.int (am_x E (i + 1)), .int (am_x E (i + 2)), .int (am_x E (i + 3))]) (st := []) hE (am_dec tmL_law_33 43 rfl) ok_X12_film rfl lmL_317 in_X12_film se_X12_film sh_117 cf12 (c_X12_film hE a2) rfl (by decide) (Nat.le_of_ble_eq_true rfl) hc hs rfl ?_
    refine am_istore (lv' := [(0, .ref 0), (1, .ref 16), (2, .ref 117), (3, .ref 2637), (4, .int (Int32.ofNat i)), (5, .int (0 : Int32)), (6, .int v)]) (am_dec tmL_law_33 44 rfl) (by decide) rfl ?_
    refine am_aload_n (am_dec tmL_law_33 45 rfl) rfl rfl ?_
    refine am_callV1 (As := []) (st := []) hE (am_dec tmL_law_33 46 rfl) ok_X12_thrown rfl lmL_169 in_X12_thrown se_X12_thrown sh_117 cf12 (c_X12_thrown hE hth) rfl (by decide) (Nat.le_of_ble_eq_true rfl) hc hs rfl ?_
    refine am_iload (am_dec tmL_law_33 47 rfl) rfl ?_
    refine am_icmp_eq (tgt := 3266) (am_dec tmL_law_33 48 rfl) (by decide) (fun _ => ?_) (fun h => absurd rfl h)
    refine am_iload (am_dec tmL_law_33 51 rfl) rfl ?_
    refine am_if_ne (tgt := 3283) (am_dec tmL_law_33 52 rfl) (by decide) (fun h => absurd rfl h) (fun _ => ?_)
    refine am_aload_n (am_dec tmL_law_33 53 rfl) rfl rfl ?_
    refine am_iconst (v := (0 : Int32)) (am_dec tmL_law_33 54 rfl) (by decide) ?_
    refine am_lald2 (n := 1) (i := 0) (v := v.toInt64) hE (am_dec tmL_law_33 55 rfl) shq_2637 (hld.trans (congrArg some a5)) ?_
    refine am_iload (am_dec tmL_law_33 56 rfl) rfl ?_
    refine am_i2l (am_dec tmL_law_33 57 rfl) ?_
    refine am_lcmp (am_dec tmL_law_33 58 rfl) ?_
    refine am_if_eq (tgt := 3283) (am_dec tmL_law_33 59 rfl) (by decide) (fun _ => ?_) (fun h => absurd (k_cmp _) h)
    refine am_goto (tgt := 3717) (am_dec tmL_law_34 2 rfl) (by decide) ?_
    refine am_pick [0, 1, 2, 3, 4] rfl ?_
    exact k
  · rcases j with _ | _ | j
    · cases b0
      refine ⟨D2, b4, fun o G' D' k => ?_⟩
      have hth : f_X12_thrown D2 = some (Int32.ofNat 1) := by rw [← b3]; rfl
      refine am_aload_n (am_dec tmL_law_33 8 rfl) rfl rfl ?_
      refine am_aload_n (am_dec tmL_law_33 9 rfl) rfl rfl ?_
      refine am_iload (am_dec tmL_law_33 10 rfl) rfl ?_
      refine am_iconst (v := (1 : Int32)) (am_dec tmL_law_33 11 rfl) (by decide) ?_
      refine am_iadd (am_dec tmL_law_33 12 rfl) ?_
      refine am_sld (j := i + 1) hE (am_dec tmL_law_33 13 rfl) (k_iz i 1) (by omega) hL ?_
      refine am_aload_n (am_dec tmL_law_33 14 rfl) rfl rfl ?_
      refine am_iload (am_dec tmL_law_33 15 rfl) rfl ?_
      refine am_iconst (v := (2 : Int32)) (am_dec tmL_law_33 16 rfl) (by decide) ?_
      refine am_iadd (am_dec tmL_law_33 17 rfl) ?_
      refine am_sld (j := i + 2) hE (am_dec tmL_law_33 18 rfl) (k_iz i 2) (by omega) hL ?_
      refine am_aload_n (am_dec tmL_law_33 19 rfl) rfl rfl ?_
      refine am_iload (am_dec tmL_law_33 20 rfl) rfl ?_
      refine am_iconst (v := (3 : Int32)) (am_dec tmL_law_33 21 rfl) (by decide) ?_
      refine am_iadd (am_dec tmL_law_33 22 rfl) ?_
      refine am_sld (j := i + 3) hE (am_dec tmL_law_33 23 rfl) (k_iz i 3) (by omega) hL ?_
      refine am_aload_n (am_dec tmL_law_33 24 rfl) rfl rfl ?_
      refine am_callSH (As := [.ref 16, .int (am_x E (i + 1)), .int (am_x E (i + 2)), .int (am_x E (i + 3)), .ref 2637]) (st := []) (am_dec tmL_law_33 25 rfl) ok_L_film (fun h => nomatch h) lmL_315 st_L_film (xw_film_1 hE b1) rfl (by decide) (Nat.le_of_ble_eq_true rfl) hc hs rfl ?_
      refine am_istore (lv' := [(0, .ref 0), (1, .ref 16), (2, .ref 117), (3, .ref 2637), (4, .int (Int32.ofNat i)), (5, .int (1 : Int32))]) (am_dec tmL_law_33 26 rfl) (by decide) rfl ?_
      refine am_aload_n (am_dec tmL_law_33 27 rfl) rfl rfl ?_
      refine am_aload_n (am_dec tmL_law_33 28 rfl) rfl rfl ?_
      refine am_iload (am_dec tmL_law_33 29 rfl) rfl ?_
      refine am_iconst (v := (1 : Int32)) (am_dec tmL_law_33 30 rfl) (by decide) ?_
      refine am_iadd (am_dec tmL_law_33 31 rfl) ?_
      refine am_sld (j := i + 1) hE (am_dec tmL_law_33 32 rfl) (k_iz i 1) (by omega) hL ?_
      refine am_aload_n (am_dec tmL_law_33 33 rfl) rfl rfl ?_
      refine am_iload (am_dec tmL_law_33 34 rfl) rfl ?_
      refine am_iconst (v := (2 : Int32)) (am_dec tmL_law_33 35 rfl) (by decide) ?_
      refine am_iadd (am_dec tmL_law_33 36 rfl) ?_
      refine am_sld (j := i + 2) hE (am_dec tmL_law_33 37 rfl) (k_iz i 2) (by omega) hL ?_
      refine am_aload_n (am_dec tmL_law_33 38 rfl) rfl rfl ?_
      refine am_iload (am_dec tmL_law_33 39 rfl) rfl ?_
      refine am_iconst (v := (3 : Int32)) (am_dec tmL_law_33 40 rfl) (by decide) ?_
      refine am_iadd (am_dec tmL_law_33 41 rfl) ?_
      refine am_sld (j := i + 3) hE (am_dec tmL_law_33 42 rfl) (k_iz i 3) (by omega) hL ?_
      refine am_callV1 (As := [.int (am_x E (i + 1)), .int (am_x E (i + 2)), .int (am_x E (i + 3))]) (st := []) hE (am_dec tmL_law_33 43 rfl) ok_X12_film rfl lmL_317 in_X12_film se_X12_film sh_117 cf12 (c_X12_film hE b2) rfl (by decide) (Nat.le_of_ble_eq_true rfl) hc hs rfl ?_
      refine am_istore (lv' := [(0, .ref 0), (1, .ref 16), (2, .ref 117), (3, .ref 2637), (4, .int (Int32.ofNat i)), (5, .int (1 : Int32)), (6, .int u)]) (am_dec tmL_law_33 44 rfl) (by decide) rfl ?_
      refine am_aload_n (am_dec tmL_law_33 45 rfl) rfl rfl ?_
      refine am_callV1 (As := []) (st := []) hE (am_dec tmL_law_33 46 rfl) ok_X12_thrown rfl lmL_169 in_X12_thrown se_X12_thrown sh_117 cf12 (c_X12_thrown hE hth) rfl (by decide) (Nat.le_of_ble_eq_true rfl) hc hs rfl ?_
      refine am_iload (am_dec tmL_law_33 47 rfl) rfl ?_
      refine am_icmp_eq (tgt := 3266) (am_dec tmL_law_33 48 rfl) (by decide) (fun _ => ?_) (fun h => absurd rfl h)
      refine am_iload (am_dec tmL_law_33 51 rfl) rfl ?_
      refine am_if_ne (tgt := 3283) (am_dec tmL_law_33 52 rfl) (by decide) (fun _ => ?_) (fun h => absurd h (by decide))
      refine am_goto (tgt := 3717) (am_dec tmL_law_34 2 rfl) (by decide) ?_
      refine am_pick [0, 1, 2, 3, 4] rfl ?_
      exact k
    · cases b0
      refine ⟨D2, b4, fun o G' D' k => ?_⟩
      have hth : f_X12_thrown D2 = some (Int32.ofNat 2) := by rw [← b3]; rfl
      refine am_aload_n (am_dec tmL_law_33 8 rfl) rfl rfl ?_
      refine am_aload_n (am_dec tmL_law_33 9 rfl) rfl rfl ?_
      refine am_iload (am_dec tmL_law_33 10 rfl) rfl ?_
      refine am_iconst (v := (1 : Int32)) (am_dec tmL_law_33 11 rfl) (by decide) ?_
      refine am_iadd (am_dec tmL_law_33 12 rfl) ?_
      refine am_sld (j := i + 1) hE (am_dec tmL_law_33 13 rfl) (k_iz i 1) (by omega) hL ?_
      refine am_aload_n (am_dec tmL_law_33 14 rfl) rfl rfl ?_
      refine am_iload (am_dec tmL_law_33 15 rfl) rfl ?_
      refine am_iconst (v := (2 : Int32)) (am_dec tmL_law_33 16 rfl) (by decide) ?_
      refine am_iadd (am_dec tmL_law_33 17 rfl) ?_
      refine am_sld (j := i + 2) hE (am_dec tmL_law_33 18 rfl) (k_iz i 2) (by omega) hL ?_
      refine am_aload_n (am_dec tmL_law_33 19 rfl) rfl rfl ?_
      refine am_iload (am_dec tmL_law_33 20 rfl) rfl ?_
      refine am_iconst (v := (3 : Int32)) (am_dec tmL_law_33 21 rfl) (by decide) ?_
      refine am_iadd (am_dec tmL_law_33 22 rfl) ?_
      refine am_sld (j := i + 3) hE (am_dec tmL_law_33 23 rfl) (k_iz i 3) (by omega) hL ?_
      refine am_aload_n (am_dec tmL_law_33 24 rfl) rfl rfl ?_
      refine am_callSH (As := [.ref 16, .int (am_x E (i + 1)), .int (am_x E (i + 2)), .int (am_x E (i + 3)), .ref 2637]) (st := []) (am_dec tmL_law_33 25 rfl) ok_L_film (fun h => nomatch h) lmL_315 st_L_film (xw_film_2 hE b1) rfl (by decide) (Nat.le_of_ble_eq_true rfl) hc hs rfl ?_
      refine am_istore (lv' := [(0, .ref 0), (1, .ref 16), (2, .ref 117), (3, .ref 2637), (4, .int (Int32.ofNat i)), (5, .int (2 : Int32))]) (am_dec tmL_law_33 26 rfl) (by decide) rfl ?_
      refine am_aload_n (am_dec tmL_law_33 27 rfl) rfl rfl ?_
      refine am_aload_n (am_dec tmL_law_33 28 rfl) rfl rfl ?_
      refine am_iload (am_dec tmL_law_33 29 rfl) rfl ?_
      refine am_iconst (v := (1 : Int32)) (am_dec tmL_law_33 30 rfl) (by decide) ?_
      refine am_iadd (am_dec tmL_law_33 31 rfl) ?_
      refine am_sld (j := i + 1) hE (am_dec tmL_law_33 32 rfl) (k_iz i 1) (by omega) hL ?_
      refine am_aload_n (am_dec tmL_law_33 33 rfl) rfl rfl ?_
      refine am_iload (am_dec tmL_law_33 34 rfl) rfl ?_
      refine am_iconst (v := (2 : Int32)) (am_dec tmL_law_33 35 rfl) (by decide) ?_
      refine am_iadd (am_dec tmL_law_33 36 rfl) ?_
      refine am_sld (j := i + 2) hE (am_dec tmL_law_33 37 rfl) (k_iz i 2) (by omega) hL ?_
      refine am_aload_n (am_dec tmL_law_33 38 rfl) rfl rfl ?_
      refine am_iload (am_dec tmL_law_33 39 rfl) rfl ?_
      refine am_iconst (v := (3 : Int32)) (am_dec tmL_law_33 40 rfl) (by decide) ?_
      refine am_iadd (am_dec tmL_law_33 41 rfl) ?_
      refine am_sld (j := i + 3) hE (am_dec tmL_law_33 42 rfl) (k_iz i 3) (by omega) hL ?_
      refine am_callV1 (As := [.int (am_x E (i + 1)), .int (am_x E (i + 2)), .int (am_x E (i + 3))]) (st := []) hE (am_dec tmL_law_33 43 rfl) ok_X12_film rfl lmL_317 in_X12_film se_X12_film sh_117 cf12 (c_X12_film hE b2) rfl (by decide) (Nat.le_of_ble_eq_true rfl) hc hs rfl ?_
      refine am_istore (lv' := [(0, .ref 0), (1, .ref 16), (2, .ref 117), (3, .ref 2637), (4, .int (Int32.ofNat i)), (5, .int (2 : Int32)), (6, .int u)]) (am_dec tmL_law_33 44 rfl) (by decide) rfl ?_
      refine am_aload_n (am_dec tmL_law_33 45 rfl) rfl rfl ?_
      refine am_callV1 (As := []) (st := []) hE (am_dec tmL_law_33 46 rfl) ok_X12_thrown rfl lmL_169 in_X12_thrown se_X12_thrown sh_117 cf12 (c_X12_thrown hE hth) rfl (by decide) (Nat.le_of_ble_eq_true rfl) hc hs rfl ?_
      refine am_iload (am_dec tmL_law_33 47 rfl) rfl ?_
      refine am_icmp_eq (tgt := 3266) (am_dec tmL_law_33 48 rfl) (by decide) (fun _ => ?_) (fun h => absurd rfl h)
      refine am_iload (am_dec tmL_law_33 51 rfl) rfl ?_
      refine am_if_ne (tgt := 3283) (am_dec tmL_law_33 52 rfl) (by decide) (fun _ => ?_) (fun h => absurd h (by decide))
      refine am_goto (tgt := 3717) (am_dec tmL_law_34 2 rfl) (by decide) ?_
      refine am_pick [0, 1, 2, 3, 4] rfl ?_
      exact k
    · cases b0
set_option maxRecDepth 100000 in
set_option maxHeartbeats 4000000 in
theorem lw_live {E : am_E} (hE : am_EH E) {D : am_D} (q : k_Q D D) {mc ms cu su i : Nat} (hL : am_L E ≤ 3072) (hi : i + 6 ≤ am_L E) (hc : cu + 1 ≤ mc) (hs : su + 6 ≤ ms) : ∃ D1, k_Q D1 D1 ∧ ∀ (o : am_O) (G' : am_G) (D' : am_D), am_S E mL_law 12 mc ms o G' D' (cu + 1) (su + 6) 3717 [(0, .ref 0), (1, .ref 16), (2, .ref 117), (3, .ref 2637), (4, .int (Int32.ofNat i))] [] am_G0 D1 → am_S E mL_law 12 mc ms o G' D' cu su 3286 [(0, .ref 0), (1, .ref 16), (2, .ref 117), (3, .ref 2637), (4, .int (Int32.ofNat i))] [] am_G0 D := by
  rcases k_joinE (f1 := fun D => k_lf D (f_X11_live (am_x E (i + 1)) (am_x E (i + 2)) (am_x E (i + 3)) (am_x E (i + 4)) (am_x E (i + 5)))) (f2 := fun D => f_X12_live (am_x E (i + 1)) (am_x E (i + 2)) (am_x E (i + 3)) (am_x E (i + 4)) (am_x E (i + 5)) D) (ex := ["java/lang/IllegalArgumentException"]) (fun v => v.toInt64) (fun D E9 h => op_live h (am_x E (i + 1)) (am_x E (i + 2)) (am_x E (i + 3)) (am_x E (i + 4)) (am_x E (i + 5))) q with ⟨D1, D2, v, a1, a2, a3, a4, a5⟩ | ⟨D1, D2, u, j, nm, b0, b1, b2, b3, b4⟩
  · refine ⟨D2, a4, fun o G' D' k => ?_⟩
    have hth : f_X12_thrown D2 = some (0 : Int32) := by rw [← a3]; rfl
    have hld : am_gL D2 2637 1 0 = some (D2.2 2637 0) := k_gl (k := 0) (by decide) (by decide)
    have hcu : ∀ _ : Unit, cu + 1 ≤ mc := fun _ => hc
    have hsu : ∀ _ : Unit, su + 6 ≤ ms := fun _ => hs
    refine am_aload_n (am_dec tmL_law_34 3 rfl) rfl rfl ?_
    refine am_aload_n (am_dec tmL_law_34 4 rfl) rfl rfl ?_
    refine am_iload (am_dec tmL_law_34 5 rfl) rfl ?_
    refine am_iconst (v := (1 : Int32)) (am_dec tmL_law_34 6 rfl) (by decide) ?_
    refine am_iadd (am_dec tmL_law_34 7 rfl) ?_
    refine am_sld (j := i + 1) hE (am_dec tmL_law_34 8 rfl) (k_iz i 1) (by omega) hL ?_
    refine am_aload_n (am_dec tmL_law_34 9 rfl) rfl rfl ?_
    refine am_iload (am_dec tmL_law_34 10 rfl) rfl ?_
    refine am_iconst (v := (2 : Int32)) (am_dec tmL_law_34 11 rfl) (by decide) ?_
    refine am_iadd (am_dec tmL_law_34 12 rfl) ?_
    refine am_sld (j := i + 2) hE (am_dec tmL_law_34 13 rfl) (k_iz i 2) (by omega) hL ?_
    refine am_aload_n (am_dec tmL_law_34 14 rfl) rfl rfl ?_
    refine am_iload (am_dec tmL_law_34 15 rfl) rfl ?_
    refine am_iconst (v := (3 : Int32)) (am_dec tmL_law_34 16 rfl) (by decide) ?_
    refine am_iadd (am_dec tmL_law_34 17 rfl) ?_
    refine am_sld (j := i + 3) hE (am_dec tmL_law_34 18 rfl) (k_iz i 3) (by omega) hL ?_
    refine am_aload_n (am_dec tmL_law_34 19 rfl) rfl rfl ?_
    refine am_iload (am_dec tmL_law_34 20 rfl) rfl ?_
    refine am_iconst (v := (4 : Int32)) (am_dec tmL_law_34 21 rfl) (by decide) ?_
    refine am_iadd (am_dec tmL_law_34 22 rfl) ?_
    refine am_sld (j := i + 4) hE (am_dec tmL_law_34 23 rfl) (k_iz i 4) (by omega) hL ?_
    refine am_aload_n (am_dec tmL_law_34 24 rfl) rfl rfl ?_
    refine am_iload (am_dec tmL_law_34 25 rfl) rfl ?_
    refine am_iconst (v := (5 : Int32)) (am_dec tmL_law_34 26 rfl) (by decide) ?_
    refine am_iadd (am_dec tmL_law_34 27 rfl) ?_
    refine am_sld (j := i + 5) hE (am_dec tmL_law_34 28 rfl) (k_iz i 5) (by omega) hL ?_
    refine am_aload_n (am_dec tmL_law_34 29 rfl) rfl rfl ?_
    refine am_callSH (As := [.ref 16, .int (am_x E (i + 1)), .int (am_x E (i + 2)), .int (am_x E (i + 3)), .int (am_x E (i + 4)), .int (am_x E (i + 5)), .ref 2637]) (st := []) (am_dec tmL_law_34 30 rfl) ok_L_live (fun h => nomatch h) lmL_318 st_L_live (cw_live hE a1) rfl (by decide) (Nat.le_of_ble_eq_true rfl) hc hs rfl ?_
    refine am_istore (lv' := [(0, .ref 0), (1, .ref 16), (2, .ref 117), (3, .ref 2637), (4, .int (Int32.ofNat i)), (5, .int (0 : Int32))]) (am_dec tmL_law_34 31 rfl) (by decide) rfl ?_
    refine am_aload_n (am_dec tmL_law_34 32 rfl) rfl rfl ?_
    refine am_aload_n (am_dec tmL_law_34 33 rfl) rfl rfl ?_
    refine am_iload (am_dec tmL_law_34 34 rfl) rfl ?_
    refine am_iconst (v := (1 : Int32)) (am_dec tmL_law_34 35 rfl) (by decide) ?_
    refine am_iadd (am_dec tmL_law_34 36 rfl) ?_
    refine am_sld (j := i + 1) hE (am_dec tmL_law_34 37 rfl) (k_iz i 1) (by omega) hL ?_
    refine am_aload_n (am_dec tmL_law_34 38 rfl) rfl rfl ?_
    refine am_iload (am_dec tmL_law_34 39 rfl) rfl ?_
    refine am_iconst (v := (2 : Int32)) (am_dec tmL_law_34 40 rfl) (by decide) ?_
    refine am_iadd (am_dec tmL_law_34 41 rfl) ?_
    refine am_sld (j := i + 2) hE (am_dec tmL_law_34 42 rfl) (k_iz i 2) (by omega) hL ?_
    refine am_aload_n (am_dec tmL_law_34 43 rfl) rfl rfl ?_
    refine am_iload (am_dec tmL_law_34 44 rfl) rfl ?_
    refine am_iconst (v := (3 : Int32)) (am_dec tmL_law_34 45 rfl) (by decide) ?_
    refine am_iadd (am_dec tmL_law_34 46 rfl) ?_
    refine am_sld (j := i + 3) hE (am_dec tmL_law_34 47 rfl) (k_iz i 3) (by omega) hL ?_
    refine am_aload_n (am_dec tmL_law_34 48 rfl) rfl rfl ?_
    refine am_iload (am_dec tmL_law_34 49 rfl) rfl ?_
    refine am_iconst (v := (4 : Int32)) (am_dec tmL_law_34 50 rfl) (by decide) ?_
    refine am_iadd (am_dec tmL_law_34 51 rfl) ?_
    refine am_sld (j := i + 4) hE (am_dec tmL_law_34 52 rfl) (k_iz i 4) (by omega) hL ?_
    refine am_aload_n (am_dec tmL_law_34 53 rfl) rfl rfl ?_
    refine am_iload (am_dec tmL_law_34 54 rfl) rfl ?_
    refine am_iconst (v := (5 : Int32)) (am_dec tmL_law_34 55 rfl) (by decide) ?_
    refine am_iadd (am_dec tmL_law_34 56 rfl) ?_
    refine am_sld (j := i + 5) hE (am_dec tmL_law_34 57 rfl) (k_iz i 5) (by omega) hL ?_
    refine am_callV1 (As := [.int (am_x E (i + 1)), .int (am_x E (i + 2)), .int (am_x E (i + 3)), .int (am_x E (i + 4)), .int (am_x E (i + 5))]) (st := []) hE (am_dec tmL_law_34 58 rfl) ok_X12_live rfl lmL_320 in_X12_live se_X12_live sh_117 cf12 (c_X12_live hE a2) rfl (by decide) (Nat.le_of_ble_eq_true rfl) hc hs rfl ?_
    refine am_istore (lv' := [(0, .ref 0), (1, .ref 16), (2, .ref 117), (3, .ref 2637), (4, .int (Int32.ofNat i)), (5, .int (0 : Int32)), (6, .int v)]) (am_dec tmL_law_34 59 rfl) (by decide) rfl ?_
    refine am_aload_n (am_dec tmL_law_35 0 rfl) rfl rfl ?_
    refine am_callV1 (As := []) (st := []) hE (am_dec tmL_law_35 1 rfl) ok_X12_thrown rfl lmL_169 in_X12_thrown se_X12_thrown sh_117 cf12 (c_X12_thrown hE hth) rfl (by decide) (Nat.le_of_ble_eq_true rfl) hc hs rfl ?_
    refine am_iload (am_dec tmL_law_35 2 rfl) rfl ?_
    refine am_icmp_eq (tgt := 3370) (am_dec tmL_law_35 3 rfl) (by decide) (fun _ => ?_) (fun h => absurd rfl h)
    refine am_iload (am_dec tmL_law_35 6 rfl) rfl ?_
    refine am_if_ne (tgt := 3387) (am_dec tmL_law_35 7 rfl) (by decide) (fun h => absurd rfl h) (fun _ => ?_)
    refine am_aload_n (am_dec tmL_law_35 8 rfl) rfl rfl ?_
    refine am_iconst (v := (0 : Int32)) (am_dec tmL_law_35 9 rfl) (by decide) ?_
    refine am_lald2 (n := 1) (i := 0) (v := v.toInt64) hE (am_dec tmL_law_35 10 rfl) shq_2637 (hld.trans (congrArg some a5)) ?_
    refine am_iload (am_dec tmL_law_35 11 rfl) rfl ?_
    refine am_i2l (am_dec tmL_law_35 12 rfl) ?_
    refine am_lcmp (am_dec tmL_law_35 13 rfl) ?_
    refine am_if_eq (tgt := 3387) (am_dec tmL_law_35 14 rfl) (by decide) (fun _ => ?_) (fun h => absurd (k_cmp _) h)
    refine am_goto (tgt := 3717) (am_dec tmL_law_35 17 rfl) (by decide) ?_
    refine am_pick [0, 1, 2, 3, 4] rfl ?_
    exact k
  · rcases j with _ | j
    · cases b0
      refine ⟨D2, b4, fun o G' D' k => ?_⟩
      have hth : f_X12_thrown D2 = some (Int32.ofNat 1) := by rw [← b3]; rfl
      refine am_aload_n (am_dec tmL_law_34 3 rfl) rfl rfl ?_
      refine am_aload_n (am_dec tmL_law_34 4 rfl) rfl rfl ?_
      refine am_iload (am_dec tmL_law_34 5 rfl) rfl ?_
      refine am_iconst (v := (1 : Int32)) (am_dec tmL_law_34 6 rfl) (by decide) ?_
      refine am_iadd (am_dec tmL_law_34 7 rfl) ?_
      refine am_sld (j := i + 1) hE (am_dec tmL_law_34 8 rfl) (k_iz i 1) (by omega) hL ?_
      refine am_aload_n (am_dec tmL_law_34 9 rfl) rfl rfl ?_
      refine am_iload (am_dec tmL_law_34 10 rfl) rfl ?_
      refine am_iconst (v := (2 : Int32)) (am_dec tmL_law_34 11 rfl) (by decide) ?_
      refine am_iadd (am_dec tmL_law_34 12 rfl) ?_
      refine am_sld (j := i + 2) hE (am_dec tmL_law_34 13 rfl) (k_iz i 2) (by omega) hL ?_
      refine am_aload_n (am_dec tmL_law_34 14 rfl) rfl rfl ?_
      refine am_iload (am_dec tmL_law_34 15 rfl) rfl ?_
      refine am_iconst (v := (3 : Int32)) (am_dec tmL_law_34 16 rfl) (by decide) ?_
      refine am_iadd (am_dec tmL_law_34 17 rfl) ?_
      refine am_sld (j := i + 3) hE (am_dec tmL_law_34 18 rfl) (k_iz i 3) (by omega) hL ?_
      refine am_aload_n (am_dec tmL_law_34 19 rfl) rfl rfl ?_
      refine am_iload (am_dec tmL_law_34 20 rfl) rfl ?_
      refine am_iconst (v := (4 : Int32)) (am_dec tmL_law_34 21 rfl) (by decide) ?_
      refine am_iadd (am_dec tmL_law_34 22 rfl) ?_
      refine am_sld (j := i + 4) hE (am_dec tmL_law_34 23 rfl) (k_iz i 4) (by omega) hL ?_
      refine am_aload_n (am_dec tmL_law_34 24 rfl) rfl rfl ?_
      refine am_iload (am_dec tmL_law_34 25 rfl) rfl ?_
      refine am_iconst (v := (5 : Int32)) (am_dec tmL_law_34 26 rfl) (by decide) ?_
      refine am_iadd (am_dec tmL_law_34 27 rfl) ?_
      refine am_sld (j := i + 5) hE (am_dec tmL_law_34 28 rfl) (k_iz i 5) (by omega) hL ?_
      refine am_aload_n (am_dec tmL_law_34 29 rfl) rfl rfl ?_
      refine am_callSH (As := [.ref 16, .int (am_x E (i + 1)), .int (am_x E (i + 2)), .int (am_x E (i + 3)), .int (am_x E (i + 4)), .int (am_x E (i + 5)), .ref 2637]) (st := []) (am_dec tmL_law_34 30 rfl) ok_L_live (fun h => nomatch h) lmL_318 st_L_live (xw_live_1 hE b1) rfl (by decide) (Nat.le_of_ble_eq_true rfl) hc hs rfl ?_
      refine am_istore (lv' := [(0, .ref 0), (1, .ref 16), (2, .ref 117), (3, .ref 2637), (4, .int (Int32.ofNat i)), (5, .int (1 : Int32))]) (am_dec tmL_law_34 31 rfl) (by decide) rfl ?_
      refine am_aload_n (am_dec tmL_law_34 32 rfl) rfl rfl ?_
      refine am_aload_n (am_dec tmL_law_34 33 rfl) rfl rfl ?_
      refine am_iload (am_dec tmL_law_34 34 rfl) rfl ?_
      refine am_iconst (v := (1 : Int32)) (am_dec tmL_law_34 35 rfl) (by decide) ?_
      refine am_iadd (am_dec tmL_law_34 36 rfl) ?_
      refine am_sld (j := i + 1) hE (am_dec tmL_law_34 37 rfl) (k_iz i 1) (by omega) hL ?_
      refine am_aload_n (am_dec tmL_law_34 38 rfl) rfl rfl ?_
      refine am_iload (am_dec tmL_law_34 39 rfl) rfl ?_
      refine am_iconst (v := (2 : Int32)) (am_dec tmL_law_34 40 rfl) (by decide) ?_
      refine am_iadd (am_dec tmL_law_34 41 rfl) ?_
      refine am_sld (j := i + 2) hE (am_dec tmL_law_34 42 rfl) (k_iz i 2) (by omega) hL ?_
      refine am_aload_n (am_dec tmL_law_34 43 rfl) rfl rfl ?_
      refine am_iload (am_dec tmL_law_34 44 rfl) rfl ?_
      refine am_iconst (v := (3 : Int32)) (am_dec tmL_law_34 45 rfl) (by decide) ?_
      refine am_iadd (am_dec tmL_law_34 46 rfl) ?_
      refine am_sld (j := i + 3) hE (am_dec tmL_law_34 47 rfl) (k_iz i 3) (by omega) hL ?_
      refine am_aload_n (am_dec tmL_law_34 48 rfl) rfl rfl ?_
      refine am_iload (am_dec tmL_law_34 49 rfl) rfl ?_
      refine am_iconst (v := (4 : Int32)) (am_dec tmL_law_34 50 rfl) (by decide) ?_
      refine am_iadd (am_dec tmL_law_34 51 rfl) ?_
      refine am_sld (j := i + 4) hE (am_dec tmL_law_34 52 rfl) (k_iz i 4) (by omega) hL ?_
      refine am_aload_n (am_dec tmL_law_34 53 rfl) rfl rfl ?_
      refine am_iload (am_dec tmL_law_34 54 rfl) rfl ?_
      refine am_iconst (v := (5 : Int32)) (am_dec tmL_law_34 55 rfl) (by decide) ?_
      refine am_iadd (am_dec tmL_law_34 56 rfl) ?_
      refine am_sld (j := i + 5) hE (am_dec tmL_law_34 57 rfl) (k_iz i 5) (by omega) hL ?_
      refine am_callV1 (As := [.int (am_x E (i + 1)), .int (am_x E (i + 2)), .int (am_x E (i + 3)), .int (am_x E (i + 4)), .int (am_x E (i + 5))]) (st := []) hE (am_dec tmL_law_34 58 rfl) ok_X12_live rfl lmL_320 in_X12_live se_X12_live sh_117 cf12 (c_X12_live hE b2) rfl (by decide) (Nat.le_of_ble_eq_true rfl) hc hs rfl ?_
      refine am_istore (lv' := [(0, .ref 0), (1, .ref 16), (2, .ref 117), (3, .ref 2637), (4, .int (Int32.ofNat i)), (5, .int (1 : Int32)), (6, .int u)]) (am_dec tmL_law_34 59 rfl) (by decide) rfl ?_
      refine am_aload_n (am_dec tmL_law_35 0 rfl) rfl rfl ?_
      refine am_callV1 (As := []) (st := []) hE (am_dec tmL_law_35 1 rfl) ok_X12_thrown rfl lmL_169 in_X12_thrown se_X12_thrown sh_117 cf12 (c_X12_thrown hE hth) rfl (by decide) (Nat.le_of_ble_eq_true rfl) hc hs rfl ?_
      refine am_iload (am_dec tmL_law_35 2 rfl) rfl ?_
      refine am_icmp_eq (tgt := 3370) (am_dec tmL_law_35 3 rfl) (by decide) (fun _ => ?_) (fun h => absurd rfl h)
      refine am_iload (am_dec tmL_law_35 6 rfl) rfl ?_
      refine am_if_ne (tgt := 3387) (am_dec tmL_law_35 7 rfl) (by decide) (fun _ => ?_) (fun h => absurd h (by decide))
      refine am_goto (tgt := 3717) (am_dec tmL_law_35 17 rfl) (by decide) ?_
      refine am_pick [0, 1, 2, 3, 4] rfl ?_
      exact k
    · cases b0
set_option maxRecDepth 100000 in
set_option maxHeartbeats 4000000 in
theorem lw_lag {E : am_E} (hE : am_EH E) {D : am_D} (q : k_Q D D) {mc ms cu su i : Nat} (hL : am_L E ≤ 3072) (hi : i + 6 ≤ am_L E) (hc : cu + 1 ≤ mc) (hs : su + 6 ≤ ms) : ∃ D1, k_Q D1 D1 ∧ ∀ (o : am_O) (G' : am_G) (D' : am_D), am_S E mL_law 12 mc ms o G' D' (cu + 1) (su + 6) 3717 [(0, .ref 0), (1, .ref 16), (2, .ref 117), (3, .ref 2637), (4, .int (Int32.ofNat i))] [] am_G0 D1 → am_S E mL_law 12 mc ms o G' D' cu su 3390 [(0, .ref 0), (1, .ref 16), (2, .ref 117), (3, .ref 2637), (4, .int (Int32.ofNat i))] [] am_G0 D := by
  rcases k_joinE (f1 := fun D => k_lf D (f_X11_lag (am_x E (i + 1)) (am_x E (i + 2)) (am_x E (i + 3)) (am_x E (i + 4)))) (f2 := fun D => f_X12_lag (am_x E (i + 1)) (am_x E (i + 2)) (am_x E (i + 3)) (am_x E (i + 4)) D) (ex := ["java/lang/IllegalArgumentException"]) (fun v => v.toInt64) (fun D E9 h => op_lag h (am_x E (i + 1)) (am_x E (i + 2)) (am_x E (i + 3)) (am_x E (i + 4))) q with ⟨D1, D2, v, a1, a2, a3, a4, a5⟩ | ⟨D1, D2, u, j, nm, b0, b1, b2, b3, b4⟩
  · refine ⟨D2, a4, fun o G' D' k => ?_⟩
    have hth : f_X12_thrown D2 = some (0 : Int32) := by rw [← a3]; rfl
    have hld : am_gL D2 2637 1 0 = some (D2.2 2637 0) := k_gl (k := 0) (by decide) (by decide)
    have hcu : ∀ _ : Unit, cu + 1 ≤ mc := fun _ => hc
    have hsu : ∀ _ : Unit, su + 6 ≤ ms := fun _ => hs
    refine am_aload_n (am_dec tmL_law_35 18 rfl) rfl rfl ?_
    refine am_aload_n (am_dec tmL_law_35 19 rfl) rfl rfl ?_
    refine am_iload (am_dec tmL_law_35 20 rfl) rfl ?_
    refine am_iconst (v := (1 : Int32)) (am_dec tmL_law_35 21 rfl) (by decide) ?_
    refine am_iadd (am_dec tmL_law_35 22 rfl) ?_
    refine am_sld (j := i + 1) hE (am_dec tmL_law_35 23 rfl) (k_iz i 1) (by omega) hL ?_
    refine am_aload_n (am_dec tmL_law_35 24 rfl) rfl rfl ?_
    refine am_iload (am_dec tmL_law_35 25 rfl) rfl ?_
    refine am_iconst (v := (2 : Int32)) (am_dec tmL_law_35 26 rfl) (by decide) ?_
    refine am_iadd (am_dec tmL_law_35 27 rfl) ?_
    refine am_sld (j := i + 2) hE (am_dec tmL_law_35 28 rfl) (k_iz i 2) (by omega) hL ?_
    refine am_aload_n (am_dec tmL_law_35 29 rfl) rfl rfl ?_
    refine am_iload (am_dec tmL_law_35 30 rfl) rfl ?_
    refine am_iconst (v := (3 : Int32)) (am_dec tmL_law_35 31 rfl) (by decide) ?_
    refine am_iadd (am_dec tmL_law_35 32 rfl) ?_
    refine am_sld (j := i + 3) hE (am_dec tmL_law_35 33 rfl) (k_iz i 3) (by omega) hL ?_
    refine am_aload_n (am_dec tmL_law_35 34 rfl) rfl rfl ?_
    refine am_iload (am_dec tmL_law_35 35 rfl) rfl ?_
    refine am_iconst (v := (4 : Int32)) (am_dec tmL_law_35 36 rfl) (by decide) ?_
    refine am_iadd (am_dec tmL_law_35 37 rfl) ?_
    refine am_sld (j := i + 4) hE (am_dec tmL_law_35 38 rfl) (k_iz i 4) (by omega) hL ?_
    refine am_aload_n (am_dec tmL_law_35 39 rfl) rfl rfl ?_
    refine am_callSH (As := [.ref 16, .int (am_x E (i + 1)), .int (am_x E (i + 2)), .int (am_x E (i + 3)), .int (am_x E (i + 4)), .ref 2637]) (st := []) (am_dec tmL_law_35 40 rfl) ok_L_lag (fun h => nomatch h) lmL_321 st_L_lag (cw_lag hE a1) rfl (by decide) (Nat.le_of_ble_eq_true rfl) hc hs rfl ?_
    refine am_istore (lv' := [(0, .ref 0), (1, .ref 16), (2, .ref 117), (3, .ref 2637), (4, .int (Int32.ofNat i)), (5, .int (0 : Int32))]) (am_dec tmL_law_35 41 rfl) (by decide) rfl ?_
    refine am_aload_n (am_dec tmL_law_35 42 rfl) rfl rfl ?_
    refine am_aload_n (am_dec tmL_law_35 43 rfl) rfl rfl ?_
    refine am_iload (am_dec tmL_law_35 44 rfl) rfl ?_
    refine am_iconst (v := (1 : Int32)) (am_dec tmL_law_35 45 rfl) (by decide) ?_
    refine am_iadd (am_dec tmL_law_35 46 rfl) ?_
    refine am_sld (j := i + 1) hE (am_dec tmL_law_35 47 rfl) (k_iz i 1) (by omega) hL ?_
    refine am_aload_n (am_dec tmL_law_35 48 rfl) rfl rfl ?_
    refine am_iload (am_dec tmL_law_35 49 rfl) rfl ?_
    refine am_iconst (v := (2 : Int32)) (am_dec tmL_law_35 50 rfl) (by decide) ?_
    refine am_iadd (am_dec tmL_law_35 51 rfl) ?_
    refine am_sld (j := i + 2) hE (am_dec tmL_law_35 52 rfl) (k_iz i 2) (by omega) hL ?_
    refine am_aload_n (am_dec tmL_law_35 53 rfl) rfl rfl ?_
    refine am_iload (am_dec tmL_law_35 54 rfl) rfl ?_
    refine am_iconst (v := (3 : Int32)) (am_dec tmL_law_35 55 rfl) (by decide) ?_
    refine am_iadd (am_dec tmL_law_35 56 rfl) ?_
    refine am_sld (j := i + 3) hE (am_dec tmL_law_35 57 rfl) (k_iz i 3) (by omega) hL ?_
    refine am_aload_n (am_dec tmL_law_35 58 rfl) rfl rfl ?_
    refine am_iload (am_dec tmL_law_35 59 rfl) rfl ?_
    refine am_iconst (v := (4 : Int32)) (am_dec tmL_law_36 0 rfl) (by decide) ?_
    refine am_iadd (am_dec tmL_law_36 1 rfl) ?_
    refine am_sld (j := i + 4) hE (am_dec tmL_law_36 2 rfl) (k_iz i 4) (by omega) hL ?_
    refine am_callV1 (As := [.int (am_x E (i + 1)), .int (am_x E (i + 2)), .int (am_x E (i + 3)), .int (am_x E (i + 4))]) (st := []) hE (am_dec tmL_law_36 3 rfl) ok_X12_lag rfl lmL_323 in_X12_lag se_X12_lag sh_117 cf12 (c_X12_lag hE a2) rfl (by decide) (Nat.le_of_ble_eq_true rfl) hc hs rfl ?_
    refine am_istore (lv' := [(0, .ref 0), (1, .ref 16), (2, .ref 117), (3, .ref 2637), (4, .int (Int32.ofNat i)), (5, .int (0 : Int32)), (6, .int v)]) (am_dec tmL_law_36 4 rfl) (by decide) rfl ?_
    refine am_aload_n (am_dec tmL_law_36 5 rfl) rfl rfl ?_
    refine am_callV1 (As := []) (st := []) hE (am_dec tmL_law_36 6 rfl) ok_X12_thrown rfl lmL_169 in_X12_thrown se_X12_thrown sh_117 cf12 (c_X12_thrown hE hth) rfl (by decide) (Nat.le_of_ble_eq_true rfl) hc hs rfl ?_
    refine am_iload (am_dec tmL_law_36 7 rfl) rfl ?_
    refine am_icmp_eq (tgt := 3462) (am_dec tmL_law_36 8 rfl) (by decide) (fun _ => ?_) (fun h => absurd rfl h)
    refine am_iload (am_dec tmL_law_36 11 rfl) rfl ?_
    refine am_if_ne (tgt := 3479) (am_dec tmL_law_36 12 rfl) (by decide) (fun h => absurd rfl h) (fun _ => ?_)
    refine am_aload_n (am_dec tmL_law_36 13 rfl) rfl rfl ?_
    refine am_iconst (v := (0 : Int32)) (am_dec tmL_law_36 14 rfl) (by decide) ?_
    refine am_lald2 (n := 1) (i := 0) (v := v.toInt64) hE (am_dec tmL_law_36 15 rfl) shq_2637 (hld.trans (congrArg some a5)) ?_
    refine am_iload (am_dec tmL_law_36 16 rfl) rfl ?_
    refine am_i2l (am_dec tmL_law_36 17 rfl) ?_
    refine am_lcmp (am_dec tmL_law_36 18 rfl) ?_
    refine am_if_eq (tgt := 3479) (am_dec tmL_law_36 19 rfl) (by decide) (fun _ => ?_) (fun h => absurd (k_cmp _) h)
    refine am_goto (tgt := 3717) (am_dec tmL_law_36 22 rfl) (by decide) ?_
    refine am_pick [0, 1, 2, 3, 4] rfl ?_
    exact k
  · rcases j with _ | j
    · cases b0
      refine ⟨D2, b4, fun o G' D' k => ?_⟩
      have hth : f_X12_thrown D2 = some (Int32.ofNat 1) := by rw [← b3]; rfl
      refine am_aload_n (am_dec tmL_law_35 18 rfl) rfl rfl ?_
      refine am_aload_n (am_dec tmL_law_35 19 rfl) rfl rfl ?_
      refine am_iload (am_dec tmL_law_35 20 rfl) rfl ?_
      refine am_iconst (v := (1 : Int32)) (am_dec tmL_law_35 21 rfl) (by decide) ?_
      refine am_iadd (am_dec tmL_law_35 22 rfl) ?_
      refine am_sld (j := i + 1) hE (am_dec tmL_law_35 23 rfl) (k_iz i 1) (by omega) hL ?_
      refine am_aload_n (am_dec tmL_law_35 24 rfl) rfl rfl ?_
      refine am_iload (am_dec tmL_law_35 25 rfl) rfl ?_
      refine am_iconst (v := (2 : Int32)) (am_dec tmL_law_35 26 rfl) (by decide) ?_
      refine am_iadd (am_dec tmL_law_35 27 rfl) ?_
      refine am_sld (j := i + 2) hE (am_dec tmL_law_35 28 rfl) (k_iz i 2) (by omega) hL ?_
      refine am_aload_n (am_dec tmL_law_35 29 rfl) rfl rfl ?_
      refine am_iload (am_dec tmL_law_35 30 rfl) rfl ?_
      refine am_iconst (v := (3 : Int32)) (am_dec tmL_law_35 31 rfl) (by decide) ?_
      refine am_iadd (am_dec tmL_law_35 32 rfl) ?_
      refine am_sld (j := i + 3) hE (am_dec tmL_law_35 33 rfl) (k_iz i 3) (by omega) hL ?_
      refine am_aload_n (am_dec tmL_law_35 34 rfl) rfl rfl ?_
      refine am_iload (am_dec tmL_law_35 35 rfl) rfl ?_
      refine am_iconst (v := (4 : Int32)) (am_dec tmL_law_35 36 rfl) (by decide) ?_
      refine am_iadd (am_dec tmL_law_35 37 rfl) ?_
      refine am_sld (j := i + 4) hE (am_dec tmL_law_35 38 rfl) (k_iz i 4) (by omega) hL ?_
      refine am_aload_n (am_dec tmL_law_35 39 rfl) rfl rfl ?_
      refine am_callSH (As := [.ref 16, .int (am_x E (i + 1)), .int (am_x E (i + 2)), .int (am_x E (i + 3)), .int (am_x E (i + 4)), .ref 2637]) (st := []) (am_dec tmL_law_35 40 rfl) ok_L_lag (fun h => nomatch h) lmL_321 st_L_lag (xw_lag_1 hE b1) rfl (by decide) (Nat.le_of_ble_eq_true rfl) hc hs rfl ?_
      refine am_istore (lv' := [(0, .ref 0), (1, .ref 16), (2, .ref 117), (3, .ref 2637), (4, .int (Int32.ofNat i)), (5, .int (1 : Int32))]) (am_dec tmL_law_35 41 rfl) (by decide) rfl ?_
      refine am_aload_n (am_dec tmL_law_35 42 rfl) rfl rfl ?_
      refine am_aload_n (am_dec tmL_law_35 43 rfl) rfl rfl ?_
      refine am_iload (am_dec tmL_law_35 44 rfl) rfl ?_
      refine am_iconst (v := (1 : Int32)) (am_dec tmL_law_35 45 rfl) (by decide) ?_
      refine am_iadd (am_dec tmL_law_35 46 rfl) ?_
      refine am_sld (j := i + 1) hE (am_dec tmL_law_35 47 rfl) (k_iz i 1) (by omega) hL ?_
      refine am_aload_n (am_dec tmL_law_35 48 rfl) rfl rfl ?_
      refine am_iload (am_dec tmL_law_35 49 rfl) rfl ?_
      refine am_iconst (v := (2 : Int32)) (am_dec tmL_law_35 50 rfl) (by decide) ?_
      refine am_iadd (am_dec tmL_law_35 51 rfl) ?_
      refine am_sld (j := i + 2) hE (am_dec tmL_law_35 52 rfl) (k_iz i 2) (by omega) hL ?_
      refine am_aload_n (am_dec tmL_law_35 53 rfl) rfl rfl ?_
      refine am_iload (am_dec tmL_law_35 54 rfl) rfl ?_
      refine am_iconst (v := (3 : Int32)) (am_dec tmL_law_35 55 rfl) (by decide) ?_
      refine am_iadd (am_dec tmL_law_35 56 rfl) ?_
      refine am_sld (j := i + 3) hE (am_dec tmL_law_35 57 rfl) (k_iz i 3) (by omega) hL ?_
      refine am_aload_n (am_dec tmL_law_35 58 rfl) rfl rfl ?_
      refine am_iload (am_dec tmL_law_35 59 rfl) rfl ?_
      refine am_iconst (v := (4 : Int32)) (am_dec tmL_law_36 0 rfl) (by decide) ?_
      refine am_iadd (am_dec tmL_law_36 1 rfl) ?_
      refine am_sld (j := i + 4) hE (am_dec tmL_law_36 2 rfl) (k_iz i 4) (by omega) hL ?_
      refine am_callV1 (As := [.int (am_x E (i + 1)), .int (am_x E (i + 2)), .int (am_x E (i + 3)), .int (am_x E (i + 4))]) (st := []) hE (am_dec tmL_law_36 3 rfl) ok_X12_lag rfl lmL_323 in_X12_lag se_X12_lag sh_117 cf12 (c_X12_lag hE b2) rfl (by decide) (Nat.le_of_ble_eq_true rfl) hc hs rfl ?_
      refine am_istore (lv' := [(0, .ref 0), (1, .ref 16), (2, .ref 117), (3, .ref 2637), (4, .int (Int32.ofNat i)), (5, .int (1 : Int32)), (6, .int u)]) (am_dec tmL_law_36 4 rfl) (by decide) rfl ?_
      refine am_aload_n (am_dec tmL_law_36 5 rfl) rfl rfl ?_
      refine am_callV1 (As := []) (st := []) hE (am_dec tmL_law_36 6 rfl) ok_X12_thrown rfl lmL_169 in_X12_thrown se_X12_thrown sh_117 cf12 (c_X12_thrown hE hth) rfl (by decide) (Nat.le_of_ble_eq_true rfl) hc hs rfl ?_
      refine am_iload (am_dec tmL_law_36 7 rfl) rfl ?_
      refine am_icmp_eq (tgt := 3462) (am_dec tmL_law_36 8 rfl) (by decide) (fun _ => ?_) (fun h => absurd rfl h)
      refine am_iload (am_dec tmL_law_36 11 rfl) rfl ?_
      refine am_if_ne (tgt := 3479) (am_dec tmL_law_36 12 rfl) (by decide) (fun _ => ?_) (fun h => absurd h (by decide))
      refine am_goto (tgt := 3717) (am_dec tmL_law_36 22 rfl) (by decide) ?_
      refine am_pick [0, 1, 2, 3, 4] rfl ?_
      exact k
    · cases b0
set_option maxRecDepth 100000 in
set_option maxHeartbeats 4000000 in
theorem lw_lags {E : am_E} (hE : am_EH E) {D : am_D} (q : k_Q D D) {mc ms cu su i : Nat} (hL : am_L E ≤ 3072) (hi : i + 6 ≤ am_L E) (hc : cu + 1 ≤ mc) (hs : su + 6 ≤ ms) : ∃ D1, k_Q D1 D1 ∧ ∀ (o : am_O) (G' : am_G) (D' : am_D), am_S E mL_law 12 mc ms o G' D' (cu + 1) (su + 6) 3717 [(0, .ref 0), (1, .ref 16), (2, .ref 117), (3, .ref 2637), (4, .int (Int32.ofNat i))] [] am_G0 D1 → am_S E mL_law 12 mc ms o G' D' cu su 3482 [(0, .ref 0), (1, .ref 16), (2, .ref 117), (3, .ref 2637), (4, .int (Int32.ofNat i))] [] am_G0 D := by
  rcases k_joinE (f1 := fun D => k_lf D (f_X11_lags (am_x E (i + 1)) (am_x E (i + 2)) (am_x E (i + 3)) (am_x E (i + 4)) (am_x E (i + 5)))) (f2 := fun D => f_X12_lags (am_x E (i + 1)) (am_x E (i + 2)) (am_x E (i + 3)) (am_x E (i + 4)) (am_x E (i + 5)) D) (ex := ["java/lang/IllegalArgumentException"]) (fun v => v.toInt64) (fun D E9 h => op_lags h (am_x E (i + 1)) (am_x E (i + 2)) (am_x E (i + 3)) (am_x E (i + 4)) (am_x E (i + 5))) q with ⟨D1, D2, v, a1, a2, a3, a4, a5⟩ | ⟨D1, D2, u, j, nm, b0, b1, b2, b3, b4⟩
  · refine ⟨D2, a4, fun o G' D' k => ?_⟩
    have hth : f_X12_thrown D2 = some (0 : Int32) := by rw [← a3]; rfl
    have hld : am_gL D2 2637 1 0 = some (D2.2 2637 0) := k_gl (k := 0) (by decide) (by decide)
    have hcu : ∀ _ : Unit, cu + 1 ≤ mc := fun _ => hc
    have hsu : ∀ _ : Unit, su + 6 ≤ ms := fun _ => hs
    refine am_aload_n (am_dec tmL_law_36 23 rfl) rfl rfl ?_
    refine am_aload_n (am_dec tmL_law_36 24 rfl) rfl rfl ?_
    refine am_iload (am_dec tmL_law_36 25 rfl) rfl ?_
    refine am_iconst (v := (1 : Int32)) (am_dec tmL_law_36 26 rfl) (by decide) ?_
    refine am_iadd (am_dec tmL_law_36 27 rfl) ?_
    refine am_sld (j := i + 1) hE (am_dec tmL_law_36 28 rfl) (k_iz i 1) (by omega) hL ?_
    refine am_aload_n (am_dec tmL_law_36 29 rfl) rfl rfl ?_
    refine am_iload (am_dec tmL_law_36 30 rfl) rfl ?_
    refine am_iconst (v := (2 : Int32)) (am_dec tmL_law_36 31 rfl) (by decide) ?_
    refine am_iadd (am_dec tmL_law_36 32 rfl) ?_
    refine am_sld (j := i + 2) hE (am_dec tmL_law_36 33 rfl) (k_iz i 2) (by omega) hL ?_
    refine am_aload_n (am_dec tmL_law_36 34 rfl) rfl rfl ?_
    refine am_iload (am_dec tmL_law_36 35 rfl) rfl ?_
    refine am_iconst (v := (3 : Int32)) (am_dec tmL_law_36 36 rfl) (by decide) ?_
    refine am_iadd (am_dec tmL_law_36 37 rfl) ?_
    refine am_sld (j := i + 3) hE (am_dec tmL_law_36 38 rfl) (k_iz i 3) (by omega) hL ?_
    refine am_aload_n (am_dec tmL_law_36 39 rfl) rfl rfl ?_
    refine am_iload (am_dec tmL_law_36 40 rfl) rfl ?_
    refine am_iconst (v := (4 : Int32)) (am_dec tmL_law_36 41 rfl) (by decide) ?_
    refine am_iadd (am_dec tmL_law_36 42 rfl) ?_
    refine am_sld (j := i + 4) hE (am_dec tmL_law_36 43 rfl) (k_iz i 4) (by omega) hL ?_
    refine am_aload_n (am_dec tmL_law_36 44 rfl) rfl rfl ?_
    refine am_iload (am_dec tmL_law_36 45 rfl) rfl ?_
    refine am_iconst (v := (5 : Int32)) (am_dec tmL_law_36 46 rfl) (by decide) ?_
    refine am_iadd (am_dec tmL_law_36 47 rfl) ?_
    refine am_sld (j := i + 5) hE (am_dec tmL_law_36 48 rfl) (k_iz i 5) (by omega) hL ?_
    refine am_aload_n (am_dec tmL_law_36 49 rfl) rfl rfl ?_
    refine am_callSH (As := [.ref 16, .int (am_x E (i + 1)), .int (am_x E (i + 2)), .int (am_x E (i + 3)), .int (am_x E (i + 4)), .int (am_x E (i + 5)), .ref 2637]) (st := []) (am_dec tmL_law_36 50 rfl) ok_L_lags (fun h => nomatch h) lmL_324 st_L_lags (cw_lags hE a1) rfl (by decide) (Nat.le_of_ble_eq_true rfl) hc hs rfl ?_
    refine am_istore (lv' := [(0, .ref 0), (1, .ref 16), (2, .ref 117), (3, .ref 2637), (4, .int (Int32.ofNat i)), (5, .int (0 : Int32))]) (am_dec tmL_law_36 51 rfl) (by decide) rfl ?_
    refine am_aload_n (am_dec tmL_law_36 52 rfl) rfl rfl ?_
    refine am_aload_n (am_dec tmL_law_36 53 rfl) rfl rfl ?_
    refine am_iload (am_dec tmL_law_36 54 rfl) rfl ?_
    refine am_iconst (v := (1 : Int32)) (am_dec tmL_law_36 55 rfl) (by decide) ?_
    refine am_iadd (am_dec tmL_law_36 56 rfl) ?_
    refine am_sld (j := i + 1) hE (am_dec tmL_law_36 57 rfl) (k_iz i 1) (by omega) hL ?_
    refine am_aload_n (am_dec tmL_law_36 58 rfl) rfl rfl ?_
    refine am_iload (am_dec tmL_law_36 59 rfl) rfl ?_
    refine am_iconst (v := (2 : Int32)) (am_dec tmL_law_37 0 rfl) (by decide) ?_
    refine am_iadd (am_dec tmL_law_37 1 rfl) ?_
    refine am_sld (j := i + 2) hE (am_dec tmL_law_37 2 rfl) (k_iz i 2) (by omega) hL ?_
    refine am_aload_n (am_dec tmL_law_37 3 rfl) rfl rfl ?_
    refine am_iload (am_dec tmL_law_37 4 rfl) rfl ?_
    refine am_iconst (v := (3 : Int32)) (am_dec tmL_law_37 5 rfl) (by decide) ?_
    refine am_iadd (am_dec tmL_law_37 6 rfl) ?_
    refine am_sld (j := i + 3) hE (am_dec tmL_law_37 7 rfl) (k_iz i 3) (by omega) hL ?_
    refine am_aload_n (am_dec tmL_law_37 8 rfl) rfl rfl ?_
    refine am_iload (am_dec tmL_law_37 9 rfl) rfl ?_
    refine am_iconst (v := (4 : Int32)) (am_dec tmL_law_37 10 rfl) (by decide) ?_
    refine am_iadd (am_dec tmL_law_37 11 rfl) ?_
    refine am_sld (j := i + 4) hE (am_dec tmL_law_37 12 rfl) (k_iz i 4) (by omega) hL ?_
    refine am_aload_n (am_dec tmL_law_37 13 rfl) rfl rfl ?_
    refine am_iload (am_dec tmL_law_37 14 rfl) rfl ?_
    refine am_iconst (v := (5 : Int32)) (am_dec tmL_law_37 15 rfl) (by decide) ?_
    refine am_iadd (am_dec tmL_law_37 16 rfl) ?_
    refine am_sld (j := i + 5) hE (am_dec tmL_law_37 17 rfl) (k_iz i 5) (by omega) hL ?_
    refine am_callV1 (As := [.int (am_x E (i + 1)), .int (am_x E (i + 2)), .int (am_x E (i + 3)), .int (am_x E (i + 4)), .int (am_x E (i + 5))]) (st := []) hE (am_dec tmL_law_37 18 rfl) ok_X12_lags rfl lmL_326 in_X12_lags se_X12_lags sh_117 cf12 (c_X12_lags hE a2) rfl (by decide) (Nat.le_of_ble_eq_true rfl) hc hs rfl ?_
    refine am_istore (lv' := [(0, .ref 0), (1, .ref 16), (2, .ref 117), (3, .ref 2637), (4, .int (Int32.ofNat i)), (5, .int (0 : Int32)), (6, .int v)]) (am_dec tmL_law_37 19 rfl) (by decide) rfl ?_
    refine am_aload_n (am_dec tmL_law_37 20 rfl) rfl rfl ?_
    refine am_callV1 (As := []) (st := []) hE (am_dec tmL_law_37 21 rfl) ok_X12_thrown rfl lmL_169 in_X12_thrown se_X12_thrown sh_117 cf12 (c_X12_thrown hE hth) rfl (by decide) (Nat.le_of_ble_eq_true rfl) hc hs rfl ?_
    refine am_iload (am_dec tmL_law_37 22 rfl) rfl ?_
    refine am_icmp_eq (tgt := 3566) (am_dec tmL_law_37 23 rfl) (by decide) (fun _ => ?_) (fun h => absurd rfl h)
    refine am_iload (am_dec tmL_law_37 26 rfl) rfl ?_
    refine am_if_ne (tgt := 3583) (am_dec tmL_law_37 27 rfl) (by decide) (fun h => absurd rfl h) (fun _ => ?_)
    refine am_aload_n (am_dec tmL_law_37 28 rfl) rfl rfl ?_
    refine am_iconst (v := (0 : Int32)) (am_dec tmL_law_37 29 rfl) (by decide) ?_
    refine am_lald2 (n := 1) (i := 0) (v := v.toInt64) hE (am_dec tmL_law_37 30 rfl) shq_2637 (hld.trans (congrArg some a5)) ?_
    refine am_iload (am_dec tmL_law_37 31 rfl) rfl ?_
    refine am_i2l (am_dec tmL_law_37 32 rfl) ?_
    refine am_lcmp (am_dec tmL_law_37 33 rfl) ?_
    refine am_if_eq (tgt := 3583) (am_dec tmL_law_37 34 rfl) (by decide) (fun _ => ?_) (fun h => absurd (k_cmp _) h)
    refine am_goto (tgt := 3717) (am_dec tmL_law_37 37 rfl) (by decide) ?_
    refine am_pick [0, 1, 2, 3, 4] rfl ?_
    exact k
  · rcases j with _ | j
    · cases b0
      refine ⟨D2, b4, fun o G' D' k => ?_⟩
      have hth : f_X12_thrown D2 = some (Int32.ofNat 1) := by rw [← b3]; rfl
      refine am_aload_n (am_dec tmL_law_36 23 rfl) rfl rfl ?_
      refine am_aload_n (am_dec tmL_law_36 24 rfl) rfl rfl ?_
      refine am_iload (am_dec tmL_law_36 25 rfl) rfl ?_
      refine am_iconst (v := (1 : Int32)) (am_dec tmL_law_36 26 rfl) (by decide) ?_
      refine am_iadd (am_dec tmL_law_36 27 rfl) ?_
      refine am_sld (j := i + 1) hE (am_dec tmL_law_36 28 rfl) (k_iz i 1) (by omega) hL ?_
      refine am_aload_n (am_dec tmL_law_36 29 rfl) rfl rfl ?_
      refine am_iload (am_dec tmL_law_36 30 rfl) rfl ?_
      refine am_iconst (v := (2 : Int32)) (am_dec tmL_law_36 31 rfl) (by decide) ?_
      refine am_iadd (am_dec tmL_law_36 32 rfl) ?_
      refine am_sld (j := i + 2) hE (am_dec tmL_law_36 33 rfl) (k_iz i 2) (by omega) hL ?_
      refine am_aload_n (am_dec tmL_law_36 34 rfl) rfl rfl ?_
      refine am_iload (am_dec tmL_law_36 35 rfl) rfl ?_
      refine am_iconst (v := (3 : Int32)) (am_dec tmL_law_36 36 rfl) (by decide) ?_
      refine am_iadd (am_dec tmL_law_36 37 rfl) ?_
      refine am_sld (j := i + 3) hE (am_dec tmL_law_36 38 rfl) (k_iz i 3) (by omega) hL ?_
      refine am_aload_n (am_dec tmL_law_36 39 rfl) rfl rfl ?_
      refine am_iload (am_dec tmL_law_36 40 rfl) rfl ?_
      refine am_iconst (v := (4 : Int32)) (am_dec tmL_law_36 41 rfl) (by decide) ?_
      refine am_iadd (am_dec tmL_law_36 42 rfl) ?_
      refine am_sld (j := i + 4) hE (am_dec tmL_law_36 43 rfl) (k_iz i 4) (by omega) hL ?_
      refine am_aload_n (am_dec tmL_law_36 44 rfl) rfl rfl ?_
      refine am_iload (am_dec tmL_law_36 45 rfl) rfl ?_
      refine am_iconst (v := (5 : Int32)) (am_dec tmL_law_36 46 rfl) (by decide) ?_
      refine am_iadd (am_dec tmL_law_36 47 rfl) ?_
      refine am_sld (j := i + 5) hE (am_dec tmL_law_36 48 rfl) (k_iz i 5) (by omega) hL ?_
      refine am_aload_n (am_dec tmL_law_36 49 rfl) rfl rfl ?_
      refine am_callSH (As := [.ref 16, .int (am_x E (i + 1)), .int (am_x E (i + 2)), .int (am_x E (i + 3)), .int (am_x E (i + 4)), .int (am_x E (i + 5)), .ref 2637]) (st := []) (am_dec tmL_law_36 50 rfl) ok_L_lags (fun h => nomatch h) lmL_324 st_L_lags (xw_lags_1 hE b1) rfl (by decide) (Nat.le_of_ble_eq_true rfl) hc hs rfl ?_
      refine am_istore (lv' := [(0, .ref 0), (1, .ref 16), (2, .ref 117), (3, .ref 2637), (4, .int (Int32.ofNat i)), (5, .int (1 : Int32))]) (am_dec tmL_law_36 51 rfl) (by decide) rfl ?_
      refine am_aload_n (am_dec tmL_law_36 52 rfl) rfl rfl ?_
      refine am_aload_n (am_dec tmL_law_36 53 rfl) rfl rfl ?_
      refine am_iload (am_dec tmL_law_36 54 rfl) rfl ?_
      refine am_iconst (v := (1 : Int32)) (am_dec tmL_law_36 55 rfl) (by decide) ?_
      refine am_iadd (am_dec tmL_law_36 56 rfl) ?_
      refine am_sld (j := i + 1) hE (am_dec tmL_law_36 57 rfl) (k_iz i 1) (by omega) hL ?_
      refine am_aload_n (am_dec tmL_law_36 58 rfl) rfl rfl ?_
      refine am_iload (am_dec tmL_law_36 59 rfl) rfl ?_
      refine am_iconst (v := (2 : Int32)) (am_dec tmL_law_37 0 rfl) (by decide) ?_
      refine am_iadd (am_dec tmL_law_37 1 rfl) ?_
      refine am_sld (j := i + 2) hE (am_dec tmL_law_37 2 rfl) (k_iz i 2) (by omega) hL ?_
      refine am_aload_n (am_dec tmL_law_37 3 rfl) rfl rfl ?_
      refine am_iload (am_dec tmL_law_37 4 rfl) rfl ?_
      refine am_iconst (v := (3 : Int32)) (am_dec tmL_law_37 5 rfl) (by decide) ?_
      refine am_iadd (am_dec tmL_law_37 6 rfl) ?_
      refine am_sld (j := i + 3) hE (am_dec tmL_law_37 7 rfl) (k_iz i 3) (by omega) hL ?_
      refine am_aload_n (am_dec tmL_law_37 8 rfl) rfl rfl ?_
      refine am_iload (am_dec tmL_law_37 9 rfl) rfl ?_
      refine am_iconst (v := (4 : Int32)) (am_dec tmL_law_37 10 rfl) (by decide) ?_
      refine am_iadd (am_dec tmL_law_37 11 rfl) ?_
      refine am_sld (j := i + 4) hE (am_dec tmL_law_37 12 rfl) (k_iz i 4) (by omega) hL ?_
      refine am_aload_n (am_dec tmL_law_37 13 rfl) rfl rfl ?_
      refine am_iload (am_dec tmL_law_37 14 rfl) rfl ?_
      refine am_iconst (v := (5 : Int32)) (am_dec tmL_law_37 15 rfl) (by decide) ?_
      refine am_iadd (am_dec tmL_law_37 16 rfl) ?_
      refine am_sld (j := i + 5) hE (am_dec tmL_law_37 17 rfl) (k_iz i 5) (by omega) hL ?_
      refine am_callV1 (As := [.int (am_x E (i + 1)), .int (am_x E (i + 2)), .int (am_x E (i + 3)), .int (am_x E (i + 4)), .int (am_x E (i + 5))]) (st := []) hE (am_dec tmL_law_37 18 rfl) ok_X12_lags rfl lmL_326 in_X12_lags se_X12_lags sh_117 cf12 (c_X12_lags hE b2) rfl (by decide) (Nat.le_of_ble_eq_true rfl) hc hs rfl ?_
      refine am_istore (lv' := [(0, .ref 0), (1, .ref 16), (2, .ref 117), (3, .ref 2637), (4, .int (Int32.ofNat i)), (5, .int (1 : Int32)), (6, .int u)]) (am_dec tmL_law_37 19 rfl) (by decide) rfl ?_
      refine am_aload_n (am_dec tmL_law_37 20 rfl) rfl rfl ?_
      refine am_callV1 (As := []) (st := []) hE (am_dec tmL_law_37 21 rfl) ok_X12_thrown rfl lmL_169 in_X12_thrown se_X12_thrown sh_117 cf12 (c_X12_thrown hE hth) rfl (by decide) (Nat.le_of_ble_eq_true rfl) hc hs rfl ?_
      refine am_iload (am_dec tmL_law_37 22 rfl) rfl ?_
      refine am_icmp_eq (tgt := 3566) (am_dec tmL_law_37 23 rfl) (by decide) (fun _ => ?_) (fun h => absurd rfl h)
      refine am_iload (am_dec tmL_law_37 26 rfl) rfl ?_
      refine am_if_ne (tgt := 3583) (am_dec tmL_law_37 27 rfl) (by decide) (fun _ => ?_) (fun h => absurd h (by decide))
      refine am_goto (tgt := 3717) (am_dec tmL_law_37 37 rfl) (by decide) ?_
      refine am_pick [0, 1, 2, 3, 4] rfl ?_
      exact k
    · cases b0
set_option maxRecDepth 100000 in
set_option maxHeartbeats 4000000 in
theorem lw_lost {E : am_E} (hE : am_EH E) {D : am_D} (q : k_Q D D) {mc ms cu su i : Nat} (hL : am_L E ≤ 3072) (hi : i + 6 ≤ am_L E) (hc : cu + 1 ≤ mc) (hs : su + 6 ≤ ms) : ∃ D1, k_Q D1 D1 ∧ ∀ (o : am_O) (G' : am_G) (D' : am_D), am_S E mL_law 12 mc ms o G' D' (cu + 1) (su + 6) 3717 [(0, .ref 0), (1, .ref 16), (2, .ref 117), (3, .ref 2637), (4, .int (Int32.ofNat i))] [] am_G0 D1 → am_S E mL_law 12 mc ms o G' D' cu su 3586 [(0, .ref 0), (1, .ref 16), (2, .ref 117), (3, .ref 2637), (4, .int (Int32.ofNat i))] [] am_G0 D := by
  rcases k_joinE (f1 := fun D => f_X11_lost (am_x E (i + 1)) (am_x E (i + 2)) (am_x E (i + 3)) D) (f2 := fun D => f_X12_lost (am_x E (i + 1)) (am_x E (i + 2)) (am_x E (i + 3)) D) (ex := ["java/util/NoSuchElementException", "java/lang/IndexOutOfBoundsException", "java/lang/IllegalStateException"]) (fun v => v.toInt64) (fun D E9 h => op_lost h (am_x E (i + 1)) (am_x E (i + 2)) (am_x E (i + 3))) q with ⟨D1, D2, v, a1, a2, a3, a4, a5⟩ | ⟨D1, D2, u, j, nm, b0, b1, b2, b3, b4⟩
  · refine ⟨D2, a4, fun o G' D' k => ?_⟩
    have hth : f_X12_thrown D2 = some (0 : Int32) := by rw [← a3]; rfl
    have hld : am_gL D2 2637 1 0 = some (D2.2 2637 0) := k_gl (k := 0) (by decide) (by decide)
    have hcu : ∀ _ : Unit, cu + 1 ≤ mc := fun _ => hc
    have hsu : ∀ _ : Unit, su + 6 ≤ ms := fun _ => hs
    refine am_aload_n (am_dec tmL_law_37 38 rfl) rfl rfl ?_
    refine am_aload_n (am_dec tmL_law_37 39 rfl) rfl rfl ?_
    refine am_iload (am_dec tmL_law_37 40 rfl) rfl ?_
    refine am_iconst (v := (1 : Int32)) (am_dec tmL_law_37 41 rfl) (by decide) ?_
    refine am_iadd (am_dec tmL_law_37 42 rfl) ?_
    refine am_sld (j := i + 1) hE (am_dec tmL_law_37 43 rfl) (k_iz i 1) (by omega) hL ?_
    refine am_aload_n (am_dec tmL_law_37 44 rfl) rfl rfl ?_
    refine am_iload (am_dec tmL_law_37 45 rfl) rfl ?_
    refine am_iconst (v := (2 : Int32)) (am_dec tmL_law_37 46 rfl) (by decide) ?_
    refine am_iadd (am_dec tmL_law_37 47 rfl) ?_
    refine am_sld (j := i + 2) hE (am_dec tmL_law_37 48 rfl) (k_iz i 2) (by omega) hL ?_
    refine am_aload_n (am_dec tmL_law_37 49 rfl) rfl rfl ?_
    refine am_iload (am_dec tmL_law_37 50 rfl) rfl ?_
    refine am_iconst (v := (3 : Int32)) (am_dec tmL_law_37 51 rfl) (by decide) ?_
    refine am_iadd (am_dec tmL_law_37 52 rfl) ?_
    refine am_sld (j := i + 3) hE (am_dec tmL_law_37 53 rfl) (k_iz i 3) (by omega) hL ?_
    refine am_aload_n (am_dec tmL_law_37 54 rfl) rfl rfl ?_
    refine am_callSH (As := [.ref 16, .int (am_x E (i + 1)), .int (am_x E (i + 2)), .int (am_x E (i + 3)), .ref 2637]) (st := []) (am_dec tmL_law_37 55 rfl) ok_L_lost (fun h => nomatch h) lmL_327 st_L_lost (cw_lost hE a1) rfl (by decide) (Nat.le_of_ble_eq_true rfl) hc hs rfl ?_
    refine am_istore (lv' := [(0, .ref 0), (1, .ref 16), (2, .ref 117), (3, .ref 2637), (4, .int (Int32.ofNat i)), (5, .int (0 : Int32))]) (am_dec tmL_law_37 56 rfl) (by decide) rfl ?_
    refine am_aload_n (am_dec tmL_law_37 57 rfl) rfl rfl ?_
    refine am_aload_n (am_dec tmL_law_37 58 rfl) rfl rfl ?_
    refine am_iload (am_dec tmL_law_37 59 rfl) rfl ?_
    refine am_iconst (v := (1 : Int32)) (am_dec tmL_law_38 0 rfl) (by decide) ?_
    refine am_iadd (am_dec tmL_law_38 1 rfl) ?_
    refine am_sld (j := i + 1) hE (am_dec tmL_law_38 2 rfl) (k_iz i 1) (by omega) hL ?_
    refine am_aload_n (am_dec tmL_law_38 3 rfl) rfl rfl ?_
    refine am_iload (am_dec tmL_law_38 4 rfl) rfl ?_
    refine am_iconst (v := (2 : Int32)) (am_dec tmL_law_38 5 rfl) (by decide) ?_
    refine am_iadd (am_dec tmL_law_38 6 rfl) ?_
    refine am_sld (j := i + 2) hE (am_dec tmL_law_38 7 rfl) (k_iz i 2) (by omega) hL ?_
    refine am_aload_n (am_dec tmL_law_38 8 rfl) rfl rfl ?_
    refine am_iload (am_dec tmL_law_38 9 rfl) rfl ?_
    refine am_iconst (v := (3 : Int32)) (am_dec tmL_law_38 10 rfl) (by decide) ?_
    refine am_iadd (am_dec tmL_law_38 11 rfl) ?_
    refine am_sld (j := i + 3) hE (am_dec tmL_law_38 12 rfl) (k_iz i 3) (by omega) hL ?_
    refine am_callV1 (As := [.int (am_x E (i + 1)), .int (am_x E (i + 2)), .int (am_x E (i + 3))]) (st := []) hE (am_dec tmL_law_38 13 rfl) ok_X12_lost rfl lmL_329 in_X12_lost se_X12_lost sh_117 cf12 (c_X12_lost hE a2) rfl (by decide) (Nat.le_of_ble_eq_true rfl) hc hs rfl ?_
    refine am_istore (lv' := [(0, .ref 0), (1, .ref 16), (2, .ref 117), (3, .ref 2637), (4, .int (Int32.ofNat i)), (5, .int (0 : Int32)), (6, .int v)]) (am_dec tmL_law_38 14 rfl) (by decide) rfl ?_
    refine am_aload_n (am_dec tmL_law_38 15 rfl) rfl rfl ?_
    refine am_callV1 (As := []) (st := []) hE (am_dec tmL_law_38 16 rfl) ok_X12_thrown rfl lmL_169 in_X12_thrown se_X12_thrown sh_117 cf12 (c_X12_thrown hE hth) rfl (by decide) (Nat.le_of_ble_eq_true rfl) hc hs rfl ?_
    refine am_iload (am_dec tmL_law_38 17 rfl) rfl ?_
    refine am_icmp_eq (tgt := 3646) (am_dec tmL_law_38 18 rfl) (by decide) (fun _ => ?_) (fun h => absurd rfl h)
    refine am_iload (am_dec tmL_law_38 21 rfl) rfl ?_
    refine am_if_ne (tgt := 3663) (am_dec tmL_law_38 22 rfl) (by decide) (fun h => absurd rfl h) (fun _ => ?_)
    refine am_aload_n (am_dec tmL_law_38 23 rfl) rfl rfl ?_
    refine am_iconst (v := (0 : Int32)) (am_dec tmL_law_38 24 rfl) (by decide) ?_
    refine am_lald2 (n := 1) (i := 0) (v := v.toInt64) hE (am_dec tmL_law_38 25 rfl) shq_2637 (hld.trans (congrArg some a5)) ?_
    refine am_iload (am_dec tmL_law_38 26 rfl) rfl ?_
    refine am_i2l (am_dec tmL_law_38 27 rfl) ?_
    refine am_lcmp (am_dec tmL_law_38 28 rfl) ?_
    refine am_if_eq (tgt := 3663) (am_dec tmL_law_38 29 rfl) (by decide) (fun _ => ?_) (fun h => absurd (k_cmp _) h)
    refine am_goto (tgt := 3717) (am_dec tmL_law_38 32 rfl) (by decide) ?_
    refine am_pick [0, 1, 2, 3, 4] rfl ?_
    exact k
  · rcases j with _ | _ | _ | j
    · cases b0
      refine ⟨D2, b4, fun o G' D' k => ?_⟩
      have hth : f_X12_thrown D2 = some (Int32.ofNat 1) := by rw [← b3]; rfl
      refine am_aload_n (am_dec tmL_law_37 38 rfl) rfl rfl ?_
      refine am_aload_n (am_dec tmL_law_37 39 rfl) rfl rfl ?_
      refine am_iload (am_dec tmL_law_37 40 rfl) rfl ?_
      refine am_iconst (v := (1 : Int32)) (am_dec tmL_law_37 41 rfl) (by decide) ?_
      refine am_iadd (am_dec tmL_law_37 42 rfl) ?_
      refine am_sld (j := i + 1) hE (am_dec tmL_law_37 43 rfl) (k_iz i 1) (by omega) hL ?_
      refine am_aload_n (am_dec tmL_law_37 44 rfl) rfl rfl ?_
      refine am_iload (am_dec tmL_law_37 45 rfl) rfl ?_
      refine am_iconst (v := (2 : Int32)) (am_dec tmL_law_37 46 rfl) (by decide) ?_
      refine am_iadd (am_dec tmL_law_37 47 rfl) ?_
      refine am_sld (j := i + 2) hE (am_dec tmL_law_37 48 rfl) (k_iz i 2) (by omega) hL ?_
      refine am_aload_n (am_dec tmL_law_37 49 rfl) rfl rfl ?_
      refine am_iload (am_dec tmL_law_37 50 rfl) rfl ?_
      refine am_iconst (v := (3 : Int32)) (am_dec tmL_law_37 51 rfl) (by decide) ?_
      refine am_iadd (am_dec tmL_law_37 52 rfl) ?_
      refine am_sld (j := i + 3) hE (am_dec tmL_law_37 53 rfl) (k_iz i 3) (by omega) hL ?_
      refine am_aload_n (am_dec tmL_law_37 54 rfl) rfl rfl ?_
      refine am_callSH (As := [.ref 16, .int (am_x E (i + 1)), .int (am_x E (i + 2)), .int (am_x E (i + 3)), .ref 2637]) (st := []) (am_dec tmL_law_37 55 rfl) ok_L_lost (fun h => nomatch h) lmL_327 st_L_lost (xw_lost_1 hE b1) rfl (by decide) (Nat.le_of_ble_eq_true rfl) hc hs rfl ?_
      refine am_istore (lv' := [(0, .ref 0), (1, .ref 16), (2, .ref 117), (3, .ref 2637), (4, .int (Int32.ofNat i)), (5, .int (1 : Int32))]) (am_dec tmL_law_37 56 rfl) (by decide) rfl ?_
      refine am_aload_n (am_dec tmL_law_37 57 rfl) rfl rfl ?_
      refine am_aload_n (am_dec tmL_law_37 58 rfl) rfl rfl ?_
      refine am_iload (am_dec tmL_law_37 59 rfl) rfl ?_
      refine am_iconst (v := (1 : Int32)) (am_dec tmL_law_38 0 rfl) (by decide) ?_
      refine am_iadd (am_dec tmL_law_38 1 rfl) ?_
      refine am_sld (j := i + 1) hE (am_dec tmL_law_38 2 rfl) (k_iz i 1) (by omega) hL ?_
      refine am_aload_n (am_dec tmL_law_38 3 rfl) rfl rfl ?_
      refine am_iload (am_dec tmL_law_38 4 rfl) rfl ?_
      refine am_iconst (v := (2 : Int32)) (am_dec tmL_law_38 5 rfl) (by decide) ?_
      refine am_iadd (am_dec tmL_law_38 6 rfl) ?_
      refine am_sld (j := i + 2) hE (am_dec tmL_law_38 7 rfl) (k_iz i 2) (by omega) hL ?_
      refine am_aload_n (am_dec tmL_law_38 8 rfl) rfl rfl ?_
      refine am_iload (am_dec tmL_law_38 9 rfl) rfl ?_
      refine am_iconst (v := (3 : Int32)) (am_dec tmL_law_38 10 rfl) (by decide) ?_
      refine am_iadd (am_dec tmL_law_38 11 rfl) ?_
      refine am_sld (j := i + 3) hE (am_dec tmL_law_38 12 rfl) (k_iz i 3) (by omega) hL ?_
      refine am_callV1 (As := [.int (am_x E (i + 1)), .int (am_x E (i + 2)), .int (am_x E (i + 3))]) (st := []) hE (am_dec tmL_law_38 13 rfl) ok_X12_lost rfl lmL_329 in_X12_lost se_X12_lost sh_117 cf12 (c_X12_lost hE b2) rfl (by decide) (Nat.le_of_ble_eq_true rfl) hc hs rfl ?_
      refine am_istore (lv' := [(0, .ref 0), (1, .ref 16), (2, .ref 117), (3, .ref 2637), (4, .int (Int32.ofNat i)), (5, .int (1 : Int32)), (6, .int u)]) (am_dec tmL_law_38 14 rfl) (by decide) rfl ?_
      refine am_aload_n (am_dec tmL_law_38 15 rfl) rfl rfl ?_
      refine am_callV1 (As := []) (st := []) hE (am_dec tmL_law_38 16 rfl) ok_X12_thrown rfl lmL_169 in_X12_thrown se_X12_thrown sh_117 cf12 (c_X12_thrown hE hth) rfl (by decide) (Nat.le_of_ble_eq_true rfl) hc hs rfl ?_
      refine am_iload (am_dec tmL_law_38 17 rfl) rfl ?_
      refine am_icmp_eq (tgt := 3646) (am_dec tmL_law_38 18 rfl) (by decide) (fun _ => ?_) (fun h => absurd rfl h)
      refine am_iload (am_dec tmL_law_38 21 rfl) rfl ?_
      refine am_if_ne (tgt := 3663) (am_dec tmL_law_38 22 rfl) (by decide) (fun _ => ?_) (fun h => absurd h (by decide))
      refine am_goto (tgt := 3717) (am_dec tmL_law_38 32 rfl) (by decide) ?_
      refine am_pick [0, 1, 2, 3, 4] rfl ?_
      exact k
    · cases b0
      refine ⟨D2, b4, fun o G' D' k => ?_⟩
      have hth : f_X12_thrown D2 = some (Int32.ofNat 2) := by rw [← b3]; rfl
      refine am_aload_n (am_dec tmL_law_37 38 rfl) rfl rfl ?_
      refine am_aload_n (am_dec tmL_law_37 39 rfl) rfl rfl ?_
      refine am_iload (am_dec tmL_law_37 40 rfl) rfl ?_
      refine am_iconst (v := (1 : Int32)) (am_dec tmL_law_37 41 rfl) (by decide) ?_
      refine am_iadd (am_dec tmL_law_37 42 rfl) ?_
      refine am_sld (j := i + 1) hE (am_dec tmL_law_37 43 rfl) (k_iz i 1) (by omega) hL ?_
      refine am_aload_n (am_dec tmL_law_37 44 rfl) rfl rfl ?_
      refine am_iload (am_dec tmL_law_37 45 rfl) rfl ?_
      refine am_iconst (v := (2 : Int32)) (am_dec tmL_law_37 46 rfl) (by decide) ?_
      refine am_iadd (am_dec tmL_law_37 47 rfl) ?_
      refine am_sld (j := i + 2) hE (am_dec tmL_law_37 48 rfl) (k_iz i 2) (by omega) hL ?_
      refine am_aload_n (am_dec tmL_law_37 49 rfl) rfl rfl ?_
      refine am_iload (am_dec tmL_law_37 50 rfl) rfl ?_
      refine am_iconst (v := (3 : Int32)) (am_dec tmL_law_37 51 rfl) (by decide) ?_
      refine am_iadd (am_dec tmL_law_37 52 rfl) ?_
      refine am_sld (j := i + 3) hE (am_dec tmL_law_37 53 rfl) (k_iz i 3) (by omega) hL ?_
      refine am_aload_n (am_dec tmL_law_37 54 rfl) rfl rfl ?_
      refine am_callSH (As := [.ref 16, .int (am_x E (i + 1)), .int (am_x E (i + 2)), .int (am_x E (i + 3)), .ref 2637]) (st := []) (am_dec tmL_law_37 55 rfl) ok_L_lost (fun h => nomatch h) lmL_327 st_L_lost (xw_lost_2 hE b1) rfl (by decide) (Nat.le_of_ble_eq_true rfl) hc hs rfl ?_
      refine am_istore (lv' := [(0, .ref 0), (1, .ref 16), (2, .ref 117), (3, .ref 2637), (4, .int (Int32.ofNat i)), (5, .int (2 : Int32))]) (am_dec tmL_law_37 56 rfl) (by decide) rfl ?_
      refine am_aload_n (am_dec tmL_law_37 57 rfl) rfl rfl ?_
      refine am_aload_n (am_dec tmL_law_37 58 rfl) rfl rfl ?_
      refine am_iload (am_dec tmL_law_37 59 rfl) rfl ?_
      refine am_iconst (v := (1 : Int32)) (am_dec tmL_law_38 0 rfl) (by decide) ?_
      refine am_iadd (am_dec tmL_law_38 1 rfl) ?_
      refine am_sld (j := i + 1) hE (am_dec tmL_law_38 2 rfl) (k_iz i 1) (by omega) hL ?_
      refine am_aload_n (am_dec tmL_law_38 3 rfl) rfl rfl ?_
      refine am_iload (am_dec tmL_law_38 4 rfl) rfl ?_
      refine am_iconst (v := (2 : Int32)) (am_dec tmL_law_38 5 rfl) (by decide) ?_
      refine am_iadd (am_dec tmL_law_38 6 rfl) ?_
      refine am_sld (j := i + 2) hE (am_dec tmL_law_38 7 rfl) (k_iz i 2) (by omega) hL ?_
      refine am_aload_n (am_dec tmL_law_38 8 rfl) rfl rfl ?_
      refine am_iload (am_dec tmL_law_38 9 rfl) rfl ?_
      refine am_iconst (v := (3 : Int32)) (am_dec tmL_law_38 10 rfl) (by decide) ?_
      refine am_iadd (am_dec tmL_law_38 11 rfl) ?_
      refine am_sld (j := i + 3) hE (am_dec tmL_law_38 12 rfl) (k_iz i 3) (by omega) hL ?_
      refine am_callV1 (As := [.int (am_x E (i + 1)), .int (am_x E (i + 2)), .int (am_x E (i + 3))]) (st := []) hE (am_dec tmL_law_38 13 rfl) ok_X12_lost rfl lmL_329 in_X12_lost se_X12_lost sh_117 cf12 (c_X12_lost hE b2) rfl (by decide) (Nat.le_of_ble_eq_true rfl) hc hs rfl ?_
      refine am_istore (lv' := [(0, .ref 0), (1, .ref 16), (2, .ref 117), (3, .ref 2637), (4, .int (Int32.ofNat i)), (5, .int (2 : Int32)), (6, .int u)]) (am_dec tmL_law_38 14 rfl) (by decide) rfl ?_
      refine am_aload_n (am_dec tmL_law_38 15 rfl) rfl rfl ?_
      refine am_callV1 (As := []) (st := []) hE (am_dec tmL_law_38 16 rfl) ok_X12_thrown rfl lmL_169 in_X12_thrown se_X12_thrown sh_117 cf12 (c_X12_thrown hE hth) rfl (by decide) (Nat.le_of_ble_eq_true rfl) hc hs rfl ?_
      refine am_iload (am_dec tmL_law_38 17 rfl) rfl ?_
      refine am_icmp_eq (tgt := 3646) (am_dec tmL_law_38 18 rfl) (by decide) (fun _ => ?_) (fun h => absurd rfl h)
      refine am_iload (am_dec tmL_law_38 21 rfl) rfl ?_
      refine am_if_ne (tgt := 3663) (am_dec tmL_law_38 22 rfl) (by decide) (fun _ => ?_) (fun h => absurd h (by decide))
      refine am_goto (tgt := 3717) (am_dec tmL_law_38 32 rfl) (by decide) ?_
      refine am_pick [0, 1, 2, 3, 4] rfl ?_
      exact k
    · cases b0
      refine ⟨D2, b4, fun o G' D' k => ?_⟩
      have hth : f_X12_thrown D2 = some (Int32.ofNat 3) := by rw [← b3]; rfl
      refine am_aload_n (am_dec tmL_law_37 38 rfl) rfl rfl ?_
      refine am_aload_n (am_dec tmL_law_37 39 rfl) rfl rfl ?_
      refine am_iload (am_dec tmL_law_37 40 rfl) rfl ?_
      refine am_iconst (v := (1 : Int32)) (am_dec tmL_law_37 41 rfl) (by decide) ?_
      refine am_iadd (am_dec tmL_law_37 42 rfl) ?_
      refine am_sld (j := i + 1) hE (am_dec tmL_law_37 43 rfl) (k_iz i 1) (by omega) hL ?_
      refine am_aload_n (am_dec tmL_law_37 44 rfl) rfl rfl ?_
      refine am_iload (am_dec tmL_law_37 45 rfl) rfl ?_
      refine am_iconst (v := (2 : Int32)) (am_dec tmL_law_37 46 rfl) (by decide) ?_
      refine am_iadd (am_dec tmL_law_37 47 rfl) ?_
      refine am_sld (j := i + 2) hE (am_dec tmL_law_37 48 rfl) (k_iz i 2) (by omega) hL ?_
      refine am_aload_n (am_dec tmL_law_37 49 rfl) rfl rfl ?_
      refine am_iload (am_dec tmL_law_37 50 rfl) rfl ?_
      refine am_iconst (v := (3 : Int32)) (am_dec tmL_law_37 51 rfl) (by decide) ?_
      refine am_iadd (am_dec tmL_law_37 52 rfl) ?_
      refine am_sld (j := i + 3) hE (am_dec tmL_law_37 53 rfl) (k_iz i 3) (by omega) hL ?_
      refine am_aload_n (am_dec tmL_law_37 54 rfl) rfl rfl ?_
      refine am_callSH (As := [.ref 16, .int (am_x E (i + 1)), .int (am_x E (i + 2)), .int (am_x E (i + 3)), .ref 2637]) (st := []) (am_dec tmL_law_37 55 rfl) ok_L_lost (fun h => nomatch h) lmL_327 st_L_lost (xw_lost_3 hE b1) rfl (by decide) (Nat.le_of_ble_eq_true rfl) hc hs rfl ?_
      refine am_istore (lv' := [(0, .ref 0), (1, .ref 16), (2, .ref 117), (3, .ref 2637), (4, .int (Int32.ofNat i)), (5, .int (3 : Int32))]) (am_dec tmL_law_37 56 rfl) (by decide) rfl ?_
      refine am_aload_n (am_dec tmL_law_37 57 rfl) rfl rfl ?_
      refine am_aload_n (am_dec tmL_law_37 58 rfl) rfl rfl ?_
      refine am_iload (am_dec tmL_law_37 59 rfl) rfl ?_
      refine am_iconst (v := (1 : Int32)) (am_dec tmL_law_38 0 rfl) (by decide) ?_
      refine am_iadd (am_dec tmL_law_38 1 rfl) ?_
      refine am_sld (j := i + 1) hE (am_dec tmL_law_38 2 rfl) (k_iz i 1) (by omega) hL ?_
      refine am_aload_n (am_dec tmL_law_38 3 rfl) rfl rfl ?_
      refine am_iload (am_dec tmL_law_38 4 rfl) rfl ?_
      refine am_iconst (v := (2 : Int32)) (am_dec tmL_law_38 5 rfl) (by decide) ?_
      refine am_iadd (am_dec tmL_law_38 6 rfl) ?_
      refine am_sld (j := i + 2) hE (am_dec tmL_law_38 7 rfl) (k_iz i 2) (by omega) hL ?_
      refine am_aload_n (am_dec tmL_law_38 8 rfl) rfl rfl ?_
      refine am_iload (am_dec tmL_law_38 9 rfl) rfl ?_
      refine am_iconst (v := (3 : Int32)) (am_dec tmL_law_38 10 rfl) (by decide) ?_
      refine am_iadd (am_dec tmL_law_38 11 rfl) ?_
      refine am_sld (j := i + 3) hE (am_dec tmL_law_38 12 rfl) (k_iz i 3) (by omega) hL ?_
      refine am_callV1 (As := [.int (am_x E (i + 1)), .int (am_x E (i + 2)), .int (am_x E (i + 3))]) (st := []) hE (am_dec tmL_law_38 13 rfl) ok_X12_lost rfl lmL_329 in_X12_lost se_X12_lost sh_117 cf12 (c_X12_lost hE b2) rfl (by decide) (Nat.le_of_ble_eq_true rfl) hc hs rfl ?_
      refine am_istore (lv' := [(0, .ref 0), (1, .ref 16), (2, .ref 117), (3, .ref 2637), (4, .int (Int32.ofNat i)), (5, .int (3 : Int32)), (6, .int u)]) (am_dec tmL_law_38 14 rfl) (by decide) rfl ?_
      refine am_aload_n (am_dec tmL_law_38 15 rfl) rfl rfl ?_
      refine am_callV1 (As := []) (st := []) hE (am_dec tmL_law_38 16 rfl) ok_X12_thrown rfl lmL_169 in_X12_thrown se_X12_thrown sh_117 cf12 (c_X12_thrown hE hth) rfl (by decide) (Nat.le_of_ble_eq_true rfl) hc hs rfl ?_
      refine am_iload (am_dec tmL_law_38 17 rfl) rfl ?_
      refine am_icmp_eq (tgt := 3646) (am_dec tmL_law_38 18 rfl) (by decide) (fun _ => ?_) (fun h => absurd rfl h)
      refine am_iload (am_dec tmL_law_38 21 rfl) rfl ?_
      refine am_if_ne (tgt := 3663) (am_dec tmL_law_38 22 rfl) (by decide) (fun _ => ?_) (fun h => absurd h (by decide))
      refine am_goto (tgt := 3717) (am_dec tmL_law_38 32 rfl) (by decide) ?_
      refine am_pick [0, 1, 2, 3, 4] rfl ?_
      exact k
    · cases b0
set_option maxRecDepth 100000 in
set_option maxHeartbeats 4000000 in
theorem lw_image {E : am_E} (hE : am_EH E) {D : am_D} (q : k_Q D D) {mc ms cu su i : Nat} (hL : am_L E ≤ 3072) (hi : i + 6 ≤ am_L E) (hc : cu + 1 ≤ mc) (hs : su + 6 ≤ ms) : ∃ D1, k_Q D1 D1 ∧ ∀ (o : am_O) (G' : am_G) (D' : am_D), am_S E mL_law 12 mc ms o G' D' (cu + 1) (su + 6) 3717 [(0, .ref 0), (1, .ref 16), (2, .ref 117), (3, .ref 2637), (4, .int (Int32.ofNat i))] [] am_G0 D1 → am_S E mL_law 12 mc ms o G' D' cu su 3666 [(0, .ref 0), (1, .ref 16), (2, .ref 117), (3, .ref 2637), (4, .int (Int32.ofNat i))] [] am_G0 D := by
  obtain ⟨D1, D2, v, a1, a2, a4⟩ := k_joinN (f1 := fun D => f_X11_image D) (f2 := fun D => f_X12_image D) (fun D E9 h => op_image h) q
  refine ⟨D2, a4, fun o G' D' k => ?_⟩
  refine am_aload_n (am_dec tmL_law_38 33 rfl) rfl rfl ?_
  refine am_callV1 (As := []) (st := []) hE (am_dec tmL_law_38 34 rfl) ok_X11_image rfl lmL_330 in_X11_image se_X11_image sh_16 cf11 (c_X11_image hE a1) rfl (by decide) (Nat.le_of_ble_eq_true rfl) (Nat.le_trans (Nat.le_add_right _ 1) hc) (Nat.le_trans (Nat.le_add_right _ 6) hs) rfl ?_
  refine am_aload_n (am_dec tmL_law_38 35 rfl) rfl rfl ?_
  refine am_callV1 (As := []) (st := [.int v]) hE (am_dec tmL_law_38 36 rfl) ok_X12_image rfl lmL_333 in_X12_image se_X12_image sh_117 cf12 (c_X12_image hE a2) rfl (by decide) (Nat.le_of_ble_eq_true rfl) (Nat.le_trans (Nat.le_add_right _ 1) hc) (Nat.le_trans (Nat.le_add_right _ 6) hs) rfl ?_
  refine am_icmp_eq (tgt := 3717) (am_dec tmL_law_38 37 rfl) (by decide) (fun _ => ?_) (fun h => absurd rfl h)
  refine am_pick [0, 1, 2, 3, 4] rfl ?_
  exact am_wide (Nat.le_add_right _ _) (Nat.le_add_right _ _) k
set_option maxRecDepth 100000 in
set_option maxHeartbeats 4000000 in
theorem lw_restore {E : am_E} (hE : am_EH E) {D : am_D} (q : k_Q D D) {mc ms cu su i : Nat} (hL : am_L E ≤ 3072) (hi : i + 6 ≤ am_L E) (hc : cu + 1 ≤ mc) (hs : su + 6 ≤ ms) : ∃ D1, k_Q D1 D1 ∧ ∀ (o : am_O) (G' : am_G) (D' : am_D), am_S E mL_law 12 mc ms o G' D' (cu + 1) (su + 6) 3717 [(0, .ref 0), (1, .ref 16), (2, .ref 117), (3, .ref 2637), (4, .int (Int32.ofNat i))] [] am_G0 D1 → am_S E mL_law 12 mc ms o G' D' cu su 3679 [(0, .ref 0), (1, .ref 16), (2, .ref 117), (3, .ref 2637), (4, .int (Int32.ofNat i))] [] am_G0 D := by
  obtain ⟨D1, D2, v, a1, a2, a4⟩ := k_joinN (f1 := fun D => f_X11_restore D) (f2 := fun D => f_X12_restore D) (fun D E9 h => op_restore h) q
  refine ⟨D2, a4, fun o G' D' k => ?_⟩
  refine am_aload_n (am_dec tmL_law_38 40 rfl) rfl rfl ?_
  refine am_callV1 (As := []) (st := []) hE (am_dec tmL_law_38 41 rfl) ok_X11_restore rfl lmL_334 in_X11_restore se_X11_restore sh_16 cf11 (c_X11_restore hE a1) rfl (by decide) (Nat.le_of_ble_eq_true rfl) (Nat.le_trans (Nat.le_add_right _ 1) hc) (Nat.le_trans (Nat.le_add_right _ 6) hs) rfl ?_
  refine am_aload_n (am_dec tmL_law_38 42 rfl) rfl rfl ?_
  refine am_callV1 (As := []) (st := [.int v]) hE (am_dec tmL_law_38 43 rfl) ok_X12_restore rfl lmL_337 in_X12_restore se_X12_restore sh_117 cf12 (c_X12_restore hE a2) rfl (by decide) (Nat.le_of_ble_eq_true rfl) (Nat.le_trans (Nat.le_add_right _ 1) hc) (Nat.le_trans (Nat.le_add_right _ 6) hs) rfl ?_
  refine am_icmp_eq (tgt := 3717) (am_dec tmL_law_38 44 rfl) (by decide) (fun _ => ?_) (fun h => absurd rfl h)
  refine am_pick [0, 1, 2, 3, 4] rfl ?_
  exact am_wide (Nat.le_add_right _ _) (Nat.le_add_right _ _) k
set_option maxRecDepth 100000 in
set_option maxHeartbeats 4000000 in
theorem lw_count {E : am_E} (hE : am_EH E) {D : am_D} (q : k_Q D D) {mc ms cu su i : Nat} (hL : am_L E ≤ 3072) (hi : i + 6 ≤ am_L E) (hc : cu + 1 ≤ mc) (hs : su + 6 ≤ ms) : ∃ D1, k_Q D1 D1 ∧ ∀ (o : am_O) (G' : am_G) (D' : am_D), am_S E mL_law 12 mc ms o G' D' (cu + 1) (su + 6) 3717 [(0, .ref 0), (1, .ref 16), (2, .ref 117), (3, .ref 2637), (4, .int (Int32.ofNat i))] [] am_G0 D1 → am_S E mL_law 12 mc ms o G' D' cu su 3692 [(0, .ref 0), (1, .ref 16), (2, .ref 117), (3, .ref 2637), (4, .int (Int32.ofNat i))] [] am_G0 D := by
  obtain ⟨D1, D2, v, a1, a2, a4⟩ := k_joinN (f1 := fun D => k_lv D (f_X11_count (am_x E (i + 1)) D)) (f2 := fun D => f_X12_count (am_x E (i + 1)) D) (fun D E9 h => op_count h (am_x E (i + 1))) q
  obtain ⟨a1, rfl⟩ := k_lv_r a1
  refine ⟨D2, a4, fun o G' D' k => ?_⟩
  refine am_aload_n (am_dec tmL_law_38 47 rfl) rfl rfl ?_
  refine am_aload_n (am_dec tmL_law_38 48 rfl) rfl rfl ?_
  refine am_iload (am_dec tmL_law_38 49 rfl) rfl ?_
  refine am_iconst (v := (1 : Int32)) (am_dec tmL_law_38 50 rfl) (by decide) ?_
  refine am_iadd (am_dec tmL_law_38 51 rfl) ?_
  refine am_sld (j := i + 1) hE (am_dec tmL_law_38 52 rfl) (k_iz i 1) (by omega) hL ?_
  refine am_callV1 (As := [.int (am_x E (i + 1))]) (st := []) hE (am_dec tmL_law_38 53 rfl) ok_X11_count rfl lmL_338 in_X11_count se_X11_count sh_16 cf11 (c_X11_count hE a1) rfl (by decide) (Nat.le_of_ble_eq_true rfl) (Nat.le_trans (Nat.le_add_right _ 1) hc) (Nat.le_trans (Nat.le_add_right _ 6) hs) rfl ?_
  refine am_aload_n (am_dec tmL_law_38 54 rfl) rfl rfl ?_
  refine am_aload_n (am_dec tmL_law_38 55 rfl) rfl rfl ?_
  refine am_iload (am_dec tmL_law_38 56 rfl) rfl ?_
  refine am_iconst (v := (1 : Int32)) (am_dec tmL_law_38 57 rfl) (by decide) ?_
  refine am_iadd (am_dec tmL_law_38 58 rfl) ?_
  refine am_sld (j := i + 1) hE (am_dec tmL_law_38 59 rfl) (k_iz i 1) (by omega) hL ?_
  refine am_callV1 (As := [.int (am_x E (i + 1))]) (st := [.int v]) hE (am_dec tmL_law_39 0 rfl) ok_X12_count rfl lmL_341 in_X12_count se_X12_count sh_117 cf12 (c_X12_count hE a2) rfl (by decide) (Nat.le_of_ble_eq_true rfl) (Nat.le_trans (Nat.le_add_right _ 1) hc) (Nat.le_trans (Nat.le_add_right _ 6) hs) rfl ?_
  refine am_icmp_eq (tgt := 3717) (am_dec tmL_law_39 1 rfl) (by decide) (fun _ => ?_) (fun h => absurd rfl h)
  refine am_pick [0, 1, 2, 3, 4] rfl ?_
  exact am_wide (Nat.le_add_right _ _) (Nat.le_add_right _ _) k
