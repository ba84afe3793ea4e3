def f_X12_drawsBoth (p1 : Int32) (p2 : Int32) (D : am_D) : Option (am_D) :=
    (f_X12_takesSound p1 D).bind fun x2 =>
    (f_X12_takes p2 x2).bind fun x4 =>
    (f_X12_draws x4).bind fun x6 =>
    some x6
set_option maxRecDepth 100000 in
set_option maxHeartbeats 4000000 in
theorem c_X12_drawsBoth {E : am_E} (hE : am_EH E) {p1 : Int32} {p2 : Int32} {D : am_D} {r : am_D}  (hf : f_X12_drawsBoth p1 p2 D = some r) : am_C E mX12_drawsBoth 5 0 0 [.ref 117, .int p1, .int p2] am_G0 D (.inl none) am_G0 r := by
  refine am_C_of (by decide +kernel) (Nat.le_of_ble_eq_true rfl) ?_
  change am_S E mX12_drawsBoth 5 0 0 (.inl none) am_G0 r 0 0 0 [(0, .ref 117), (1, .int p1), (2, .int p2)] [] am_G0 D
  unfold f_X12_drawsBoth at hf
  refine am_aload_n (am_dec tmX12_drawsBoth 0 rfl) rfl rfl ?_
  refine am_iload_n (am_dec tmX12_drawsBoth 1 rfl) rfl rfl ?_
  obtain ⟨x2, g1, hf⟩ := am_bd hf
  refine am_callV0 (As := [.int p1]) (st := []) hE (am_dec tmX12_drawsBoth 2 rfl) ok_X12_takesSound rfl lm_X12_290 in_X12_takesSound se_X12_takesSound sh_117 cf12 (c_X12_takesSound hE g1) rfl (by decide) (Nat.le_of_ble_eq_true rfl) (Nat.zero_le _) (Nat.zero_le _) rfl ?_
  refine am_aload_n (am_dec tmX12_drawsBoth 3 rfl) rfl rfl ?_
  refine am_iload_n (am_dec tmX12_drawsBoth 4 rfl) rfl rfl ?_
  obtain ⟨x4, g3, hf⟩ := am_bd hf
  refine am_callV0 (As := [.int p2]) (st := []) hE (am_dec tmX12_drawsBoth 5 rfl) ok_X12_takes rfl lm_X12_241 in_X12_takes se_X12_takes sh_117 cf12 (c_X12_takes hE g3) rfl (by decide) (Nat.le_of_ble_eq_true rfl) (Nat.zero_le _) (Nat.zero_le _) rfl ?_
  refine am_aload_n (am_dec tmX12_drawsBoth 6 rfl) rfl rfl ?_
  obtain ⟨x6, g5, hf⟩ := am_bd hf
  refine am_callV0 (As := []) (st := []) hE (am_dec tmX12_drawsBoth 7 rfl) ok_X12_draws rfl lm_X12_293 in_X12_draws se_X12_draws sh_117 cf12 (c_X12_draws hE g5) rfl (by decide) (Nat.le_of_ble_eq_true rfl) (Nat.zero_le _) (Nat.zero_le _) rfl ?_
  have hf := Option.some.inj hf
  subst hf
  exact am_vret (am_dec tmX12_drawsBoth 8 rfl) rfl (Nat.zero_le _) (Nat.zero_le _)
def f_X12_draw (p1 : Int32) (p2 : Int32) (D : am_D) : Option ((Int32 × am_D)) :=
    (some (am_wI D 117 0 (0 : Int32))).bind fun D1 =>
    (f_X12_badBoth p1 p2 D1).bind fun x4 =>
    if x4.1 = 0 then
    (f_X12_isShort p1 p2 x4.2).bind fun x7 =>
    (f_X12_bad x7 (3 : Int32) x4.2).bind fun x9 =>
    if x9.1 = 0 then
    (f_X12_drawsBoth p1 p2 x9.2).bind fun x12 =>
    some ((x12.1 117 39), x12)
    else
    some ((0 : Int32), x9.2)
    else
    some ((0 : Int32), x4.2)
set_option maxRecDepth 100000 in
set_option maxHeartbeats 4000000 in
theorem c_X12_draw {E : am_E} (hE : am_EH E) {p1 : Int32} {p2 : Int32} {D : am_D} {r : (Int32 × am_D)}  (hf : f_X12_draw p1 p2 D = some r) : am_C E mX12_draw 6 0 0 [.ref 117, .int p1, .int p2] am_G0 D (.inl (some (.int r.1))) am_G0 r.2 := by
  refine am_C_of (by decide +kernel) (Nat.le_of_ble_eq_true rfl) ?_
  change am_S E mX12_draw 6 0 0 (.inl (some (.int r.1))) am_G0 r.2 0 0 0 [(0, .ref 117), (1, .int p1), (2, .int p2)] [] am_G0 D
  unfold f_X12_draw at hf
  refine am_aload_n (am_dec tmX12_draw 0 rfl) rfl rfl ?_
  refine am_iconst (v := (0 : Int32)) (am_dec tmX12_draw 1 rfl) (by decide) ?_
  obtain ⟨D1, g2, hf⟩ := am_bd hf
  refine am_putI2 (j := 0) hE (am_dec tmX12_draw 2 rfl) sh_117 cf12 (by decide) rfl lf_X12_110 rfl rfl rfl g2 ?_
  refine am_aload_n (am_dec tmX12_draw 3 rfl) rfl rfl ?_
  refine am_iload_n (am_dec tmX12_draw 4 rfl) rfl rfl ?_
  refine am_iload_n (am_dec tmX12_draw 5 rfl) rfl rfl ?_
  obtain ⟨x4, g3, hf⟩ := am_bd hf
  refine am_callV1 (As := [.int p1, .int p2]) (st := []) hE (am_dec tmX12_draw 6 rfl) ok_X12_badBoth rfl lm_X12_296 in_X12_badBoth se_X12_badBoth sh_117 cf12 (c_X12_badBoth hE g3) rfl (by decide) (Nat.le_of_ble_eq_true rfl) (Nat.zero_le _) (Nat.zero_le _) rfl ?_
  refine am_if_ne (tgt := 28) (am_dec tmX12_draw 7 rfl) (by decide) (fun c5 => ?_) (fun c5 => ?_)
  · rw [if_neg c5] at hf
    refine am_iconst (v := (0 : Int32)) (am_dec tmX12_draw 16 rfl) (by decide) ?_
    have hf := Option.some.inj hf
    subst hf
    exact am_iret (am_dec tmX12_draw 17 rfl) rfl (Nat.zero_le _) (Nat.zero_le _)
  · rw [if_pos c5] at hf
    refine am_aload_n (am_dec tmX12_draw 8 rfl) rfl rfl ?_
    refine am_aload_n (am_dec tmX12_draw 9 rfl) rfl rfl ?_
    refine am_iload_n (am_dec tmX12_draw 10 rfl) rfl rfl ?_
    refine am_iload_n (am_dec tmX12_draw 11 rfl) rfl rfl ?_
    obtain ⟨x7, g6, hf⟩ := am_bd hf
    refine am_callV1 (As := [.int p1, .int p2]) (st := [.ref 117]) hE (am_dec tmX12_draw 12 rfl) ok_X12_isShort rfl lm_X12_300 in_X12_isShort se_X12_isShort sh_117 cf12 (c_X12_isShort hE g6) rfl (by decide) (Nat.le_of_ble_eq_true rfl) (Nat.zero_le _) (Nat.zero_le _) rfl ?_
    refine am_iconst (v := (3 : Int32)) (am_dec tmX12_draw 13 rfl) (by decide) ?_
    obtain ⟨x9, g8, hf⟩ := am_bd hf
    refine am_callV1 (As := [.int x7, .int (3 : Int32)]) (st := []) hE (am_dec tmX12_draw 14 rfl) ok_X12_bad rfl lm_X12_191 in_X12_bad se_X12_bad sh_117 cf12 (c_X12_bad hE g8) rfl (by decide) (Nat.le_of_ble_eq_true rfl) (Nat.zero_le _) (Nat.zero_le _) rfl ?_
    refine am_if_eq (tgt := 30) (am_dec tmX12_draw 15 rfl) (by decide) (fun c10 => ?_) (fun c10 => ?_)
    · rw [if_pos c10] at hf
      refine am_aload_n (am_dec tmX12_draw 18 rfl) rfl rfl ?_
      refine am_iload_n (am_dec tmX12_draw 19 rfl) rfl rfl ?_
      refine am_iload_n (am_dec tmX12_draw 20 rfl) rfl rfl ?_
      obtain ⟨x12, g11, hf⟩ := am_bd hf
      refine am_callV0 (As := [.int p1, .int p2]) (st := []) hE (am_dec tmX12_draw 21 rfl) ok_X12_drawsBoth rfl lm_X12_303 in_X12_drawsBoth se_X12_drawsBoth sh_117 cf12 (c_X12_drawsBoth hE g11) rfl (by decide) (Nat.le_of_ble_eq_true rfl) (Nat.zero_le _) (Nat.zero_le _) rfl ?_
      refine am_aload_n (am_dec tmX12_draw 22 rfl) rfl rfl ?_
      refine am_getI (j := 39) hE (am_dec tmX12_draw 23 rfl) sh_117 cf12 (by decide) rfl lf_X12_250 ?_
      have hf := Option.some.inj hf
      subst hf
      exact am_iret (am_dec tmX12_draw 24 rfl) rfl (Nat.zero_le _) (Nat.zero_le _)
    · rw [if_neg c10] at hf
      refine am_iconst (v := (0 : Int32)) (am_dec tmX12_draw 16 rfl) (by decide) ?_
      have hf := Option.some.inj hf
      subst hf
      exact am_iret (am_dec tmX12_draw 17 rfl) rfl (Nat.zero_le _) (Nat.zero_le _)
def f_X12_findBlows_L27 (q1 : Nat) (q2 : Int32) (q3 : Int32) (q4 : Int32) (D : am_D) : Nat → Int32 → Int32 → Option (Int32)
  | 0, _, _ => none
  | n + 1, v5, v6 =>
    if q4 ≤ v6 then
    some (v5)
    else
    (am_gI D q1 (am_ln q1) v6).bind fun x5 =>
    (f_X12_amount x5).bind fun x8 =>
    (f_X12_more v5 x8).bind fun x10 =>
    f_X12_findBlows_L27 q1 q2 q3 q4 D n x10 (v6 + (1 : Int32))
def f_X12_findBlows_L5 (q1 : Nat) (q2 : Int32) : Nat → Int32 → Int32 → am_D → Option (Int32 × am_D)
  | 0, _, _, _ => none
  | n + 1, v3, v4, D =>
    if q2 ≤ v4 then
    some (v3, D)
    else
    (f_X12_more (0 : Int32) (v4 - (D.1 117 19))).bind fun x3 =>
    (f_X12_findBlows_L27 q1 q2 v3 v4 D am_fu (0 : Int32) x3).bind fun e11 =>
    (if v3 = 0 then
    some ((1 : Int32))
    else
    (am_gI D 2629 1200 (v3 - (1 : Int32))).bind fun x14 =>
    if (v4 - (D.1 117 19)) ≤ x14 then
    some ((0 : Int32))
    else
    some ((1 : Int32))).bind fun w17 =>
    (if w17 = 0 then
    some (v3, D)
    else
    (am_gI D q1 (am_ln q1) v4).bind fun x20 =>
    (f_X12_amount x20).bind fun x23 =>
    if x23 < (D.1 117 17) then
    some (v3, D)
    else
    (am_gI D q1 (am_ln q1) v4).bind fun x25 =>
    (f_X12_amount x25).bind fun x28 =>
    if ((D.1 117 18) * e11) ≤ x28 then
    (am_pI D 2629 1200 v3 v4).bind fun D30 =>
    some ((v3 + (1 : Int32)), D30)
    else
    some (v3, D)).bind fun w32 =>
    f_X12_findBlows_L5 q1 q2 n w32.1 (v4 + (1 : Int32)) w32.2
def f_X12_findBlows (p1 : Nat) (p2 : Int32) (D : am_D) : Option ((Int32 × am_D)) :=
    (f_X12_findBlows_L5 p1 p2 am_fu (0 : Int32) (0 : Int32) D).bind fun e36 =>
    some (e36.1, e36.2)
set_option maxRecDepth 100000 in
set_option maxHeartbeats 4000000 in
theorem l_X12_findBlows_L27 {E : am_E} (hE : am_EH E) {d mc ms : Nat} {o : am_O} {G2 : am_G} {D2 : am_D} (hdp : 2 ≤ d) {q1 : Nat} {q2 : Int32} {q3 : Int32} {q4 : Int32} {D : am_D} (h_q1 : am_sh am_G0 q1 = some (20, am_ln q1)) : ∀ (n : Nat) (v5 : Int32) (v6 : Int32) (ex0 : Int32), f_X12_findBlows_L27 q1 q2 q3 q4 D n v5 v6 = some ex0 → (∀ ex : Int32, ex0 = ex → am_S E mX12_findBlows d mc ms o G2 D2 0 0 54 [(0, .ref 117), (1, .ref q1), (2, .int q2), (3, .int q3), (4, .int q4), (5, .int ex)] [] am_G0 D) → am_S E mX12_findBlows d mc ms o G2 D2 0 0 27 [(0, .ref 117), (1, .ref q1), (2, .int q2), (3, .int q3), (4, .int q4), (5, .int v5), (6, .int v6)] [] am_G0 D
  | 0, _, _, _, hf, _ => by
    unfold f_X12_findBlows_L27 at hf
    cases hf
  | n + 1, v5, v6, ex0, hf, hk0 => by
    unfold f_X12_findBlows_L27 at hf
    refine am_iload (am_dec tmX12_findBlows_0 16 rfl) rfl ?_
    refine am_iload (am_dec tmX12_findBlows_0 17 rfl) rfl ?_
    refine am_icmp_ge (tgt := 54) (am_dec tmX12_findBlows_0 18 rfl) (by decide) (fun c4 => ?_) (fun c4 => ?_)
    · rw [if_pos c4] at hf
      have hf := Option.some.inj hf
      subst hf
      exact am_pick [0, 1, 2, 3, 4, 5] rfl (hk0 _ rfl)
    · rw [if_neg c4] at hf
      refine am_iload (am_dec tmX12_findBlows_0 19 rfl) rfl ?_
      refine am_aload_n (am_dec tmX12_findBlows_0 20 rfl) rfl rfl ?_
      refine am_iload (am_dec tmX12_findBlows_0 21 rfl) rfl ?_
      obtain ⟨x5, g6, hf⟩ := am_bd hf
      refine am_iald2 hE (am_dec tmX12_findBlows_0 22 rfl) h_q1 g6 ?_
      obtain ⟨x8, g7, hf⟩ := am_bd hf
      refine am_callS1 (As := [.int x5]) (st := [.int v5]) (am_dec tmX12_findBlows_0 23 rfl) ok_X12_amount rfl lm_X12_281 st_X12_amount (c_X12_amount hE g7) rfl (Nat.lt_of_lt_of_le (by decide) hdp) (Nat.le_of_ble_eq_true rfl) (Nat.zero_le _) (Nat.zero_le _) rfl ?_
      obtain ⟨x10, g9, hf⟩ := am_bd hf
      refine am_callS1 (As := [.int v5, .int x8]) (st := []) (am_dec tmX12_findBlows_0 24 rfl) ok_X12_more rfl lm_X12_306 st_X12_more (c_X12_more hE g9) rfl (Nat.lt_of_lt_of_le (by decide) hdp) (Nat.le_of_ble_eq_true rfl) (Nat.zero_le _) (Nat.zero_le _) rfl ?_
      refine am_istore (lv' := [(0, .ref 117), (1, .ref q1), (2, .int q2), (3, .int q3), (4, .int q4), (5, .int x10), (6, .int v6)]) (am_dec tmX12_findBlows_0 25 rfl) (by decide) rfl ?_
      refine am_iinc (v := (1 : Int32)) (lv' := [(0, .ref 117), (1, .ref q1), (2, .int q2), (3, .int q3), (4, .int q4), (5, .int x10), (6, .int (v6 + (1 : Int32)))]) (am_dec tmX12_findBlows_0 26 rfl) rfl (by decide) (by decide) rfl ?_
      refine am_goto (tgt := 27) (am_dec tmX12_findBlows_0 27 rfl) (by decide) ?_
      exact am_pick [0, 1, 2, 3, 4, 5, 6] rfl (l_X12_findBlows_L27 hE hdp h_q1 n x10 (v6 + (1 : Int32)) ex0 hf hk0)
set_option maxRecDepth 100000 in
set_option maxHeartbeats 4000000 in
theorem l_X12_findBlows_L5 {E : am_E} (hE : am_EH E) {d mc ms : Nat} {o : am_O} {G2 : am_G} {D2 : am_D} (hdp : 2 ≤ d) {q1 : Nat} {q2 : Int32} (h_q1 : am_sh am_G0 q1 = some (20, am_ln q1)) : ∀ (n : Nat) (v3 : Int32) (v4 : Int32) (D : am_D) (ex0 : Int32 × am_D), f_X12_findBlows_L5 q1 q2 n v3 v4 D = some ex0 → (∀ ex : Int32 × am_D, ex0 = ex → am_S E mX12_findBlows d mc ms o G2 D2 0 0 139 [(3, .int ex.1)] [] am_G0 ex.2) → am_S E mX12_findBlows d mc ms o G2 D2 0 0 5 [(0, .ref 117), (1, .ref q1), (2, .int q2), (3, .int v3), (4, .int v4)] [] am_G0 D
  | 0, _, _, _, _, hf, _ => by
    unfold f_X12_findBlows_L5 at hf
    cases hf
  | n + 1, v3, v4, D, ex0, hf, hk0 => by
    unfold f_X12_findBlows_L5 at hf
    refine am_iload (am_dec tmX12_findBlows_0 4 rfl) rfl ?_
    refine am_iload_n (am_dec tmX12_findBlows_0 5 rfl) rfl rfl ?_
    refine am_icmp_ge (tgt := 139) (am_dec tmX12_findBlows_0 6 rfl) (by decide) (fun c1 => ?_) (fun c1 => ?_)
    · rw [if_pos c1] at hf
      have hf := Option.some.inj hf
      subst hf
      exact am_pick [3] rfl (hk0 _ rfl)
    · rw [if_neg c1] at hf
      refine am_iconst (v := (0 : Int32)) (am_dec tmX12_findBlows_0 7 rfl) (by decide) ?_
      refine am_istore (lv' := [(0, .ref 117), (1, .ref q1), (2, .int q2), (3, .int v3), (4, .int v4), (5, .int (0 : Int32))]) (am_dec tmX12_findBlows_0 8 rfl) (by decide) rfl ?_
      refine am_iconst (v := (0 : Int32)) (am_dec tmX12_findBlows_0 9 rfl) (by decide) ?_
      refine am_iload (am_dec tmX12_findBlows_0 10 rfl) rfl ?_
      refine am_aload_n (am_dec tmX12_findBlows_0 11 rfl) rfl rfl ?_
      refine am_getI (j := 19) hE (am_dec tmX12_findBlows_0 12 rfl) sh_117 cf12 (by decide) rfl lf_X12_40 ?_
      refine am_isub (am_dec tmX12_findBlows_0 13 rfl) ?_
      obtain ⟨x3, g2, hf⟩ := am_bd hf
      refine am_callS1 (As := [.int (0 : Int32), .int (v4 - (D.1 117 19))]) (st := []) (am_dec tmX12_findBlows_0 14 rfl) ok_X12_more rfl lm_X12_306 st_X12_more (c_X12_more hE g2) rfl (Nat.lt_of_lt_of_le (by decide) hdp) (Nat.le_of_ble_eq_true rfl) (Nat.zero_le _) (Nat.zero_le _) rfl ?_
      refine am_istore (lv' := [(0, .ref 117), (1, .ref q1), (2, .int q2), (3, .int v3), (4, .int v4), (5, .int (0 : Int32)), (6, .int x3)]) (am_dec tmX12_findBlows_0 15 rfl) (by decide) rfl ?_
      obtain ⟨e11, g35, hf⟩ := am_bd hf
      refine am_pick [0, 1, 2, 3, 4, 5, 6] rfl (l_X12_findBlows_L27 hE hdp h_q1 am_fu _ _ _ g35 (fun ex he => ?_))
      subst he
      refine am_iload_n (am_dec tmX12_findBlows_0 28 rfl) rfl rfl ?_
      obtain ⟨w17, g34, hf⟩ := am_bd hf
      have key13 : am_S E mX12_findBlows d mc ms o G2 D2 0 0 81 [(0, .ref 117), (1, .ref q1), (2, .int q2), (3, .int v3), (4, .int v4), (5, .int e11)] [.int w17] am_G0 D := by
        refine am_istore (lv' := [(0, .ref 117), (1, .ref q1), (2, .int q2), (3, .int v3), (4, .int v4), (5, .int e11), (6, .int w17)]) (am_dec tmX12_findBlows_0 44 rfl) (by decide) rfl ?_
        refine am_iload (am_dec tmX12_findBlows_0 45 rfl) rfl ?_
        obtain ⟨w32, g33, hf⟩ := am_bd hf
        have key19 : am_S E mX12_findBlows d mc ms o G2 D2 0 0 133 [(0, .ref 117), (1, .ref q1), (2, .int q2), (3, .int w32.1), (4, .int v4)] [] am_G0 w32.2 := by
          refine am_iinc (v := (1 : Int32)) (lv' := [(0, .ref 117), (1, .ref q1), (2, .int q2), (3, .int w32.1), (4, .int (v4 + (1 : Int32)))]) (am_dec tmX12_findBlows_1 10 rfl) rfl (by decide) (by decide) rfl ?_
          refine am_goto (tgt := 5) (am_dec tmX12_findBlows_1 11 rfl) (by decide) ?_
          exact am_pick [0, 1, 2, 3, 4] rfl (l_X12_findBlows_L5 hE hdp h_q1 n w32.1 (v4 + (1 : Int32)) w32.2 ex0 hf hk0)
        replace hf := g33
        refine am_if_eq (tgt := 133) (am_dec tmX12_findBlows_0 46 rfl) (by decide) (fun c18 => ?_) (fun c18 => ?_)
        · rw [if_pos c18] at hf
          have hf := Option.some.inj hf
          subst hf
          exact am_pick [0, 1, 2, 3, 4] rfl key19
        · rw [if_neg c18] at hf
          refine am_aload_n (am_dec tmX12_findBlows_0 47 rfl) rfl rfl ?_
          refine am_iload (am_dec tmX12_findBlows_0 48 rfl) rfl ?_
          obtain ⟨x20, g21, hf⟩ := am_bd hf
          refine am_iald2 hE (am_dec tmX12_findBlows_0 49 rfl) h_q1 g21 ?_
          obtain ⟨x23, g22, hf⟩ := am_bd hf
          refine am_callS1 (As := [.int x20]) (st := []) (am_dec tmX12_findBlows_0 50 rfl) ok_X12_amount rfl lm_X12_281 st_X12_amount (c_X12_amount hE g22) rfl (Nat.lt_of_lt_of_le (by decide) hdp) (Nat.le_of_ble_eq_true rfl) (Nat.zero_le _) (Nat.zero_le _) rfl ?_
          refine am_aload_n (am_dec tmX12_findBlows_0 51 rfl) rfl rfl ?_
          refine am_getI (j := 17) hE (am_dec tmX12_findBlows_0 52 rfl) sh_117 cf12 (by decide) rfl lf_X12_34 ?_
          refine am_icmp_lt (tgt := 133) (am_dec tmX12_findBlows_0 53 rfl) (by decide) (fun c24 => ?_) (fun c24 => ?_)
          · rw [if_pos c24] at hf
            have hf := Option.some.inj hf
            subst hf
            exact am_pick [0, 1, 2, 3, 4] rfl key19
          · rw [if_neg c24] at hf
            refine am_aload_n (am_dec tmX12_findBlows_0 54 rfl) rfl rfl ?_
            refine am_iload (am_dec tmX12_findBlows_0 55 rfl) rfl ?_
            obtain ⟨x25, g26, hf⟩ := am_bd hf
            refine am_iald2 hE (am_dec tmX12_findBlows_0 56 rfl) h_q1 g26 ?_
            obtain ⟨x28, g27, hf⟩ := am_bd hf
            refine am_callS1 (As := [.int x25]) (st := []) (am_dec tmX12_findBlows_0 57 rfl) ok_X12_amount rfl lm_X12_281 st_X12_amount (c_X12_amount hE g27) rfl (Nat.lt_of_lt_of_le (by decide) hdp) (Nat.le_of_ble_eq_true rfl) (Nat.zero_le _) (Nat.zero_le _) rfl ?_
            refine am_aload_n (am_dec tmX12_findBlows_0 58 rfl) rfl rfl ?_
            refine am_getI (j := 18) hE (am_dec tmX12_findBlows_0 59 rfl) sh_117 cf12 (by decide) rfl lf_X12_37 ?_
            refine am_iload (am_dec tmX12_findBlows_1 0 rfl) rfl ?_
            refine am_imul (am_dec tmX12_findBlows_1 1 rfl) ?_
            refine am_icmp_ge (tgt := 122) (am_dec tmX12_findBlows_1 2 rfl) (by decide) (fun c29 => ?_) (fun c29 => ?_)
            · rw [if_pos c29] at hf
              refine am_aload_n (am_dec tmX12_findBlows_1 4 rfl) rfl rfl ?_
              refine am_getR (j := 51) hE (am_dec tmX12_findBlows_1 5 rfl) sh_117 cf12 (by decide) rfl lf_X12_94 rf_117_51 ?_
              refine am_iload_n (am_dec tmX12_findBlows_1 6 rfl) rfl rfl ?_
              refine am_iload (am_dec tmX12_findBlows_1 7 rfl) rfl ?_
              obtain ⟨D30, g31, hf⟩ := am_bd hf
              refine am_iast2 hE (am_dec tmX12_findBlows_1 8 rfl) sh_2629 g31 ?_
              refine am_iinc (v := (1 : Int32)) (lv' := [(0, .ref 117), (1, .ref q1), (2, .int q2), (3, .int (v3 + (1 : Int32))), (4, .int v4), (5, .int e11), (6, .int w17)]) (am_dec tmX12_findBlows_1 9 rfl) rfl (by decide) (by decide) rfl ?_
              have hf := Option.some.inj hf
              subst hf
              exact am_pick [0, 1, 2, 3, 4] rfl key19
            · rw [if_neg c29] at hf
              refine am_goto (tgt := 133) (am_dec tmX12_findBlows_1 3 rfl) (by decide) ?_
              have hf := Option.some.inj hf
              subst hf
              exact am_pick [0, 1, 2, 3, 4] rfl key19
      replace hf := g34
      refine am_if_eq (tgt := 76) (am_dec tmX12_findBlows_0 29 rfl) (by decide) (fun c12 => ?_) (fun c12 => ?_)
      · rw [if_pos c12] at hf
        refine am_iconst (v := (1 : Int32)) (am_dec tmX12_findBlows_0 41 rfl) (by decide) ?_
        refine am_goto (tgt := 81) (am_dec tmX12_findBlows_0 42 rfl) (by decide) ?_
        have hf := Option.some.inj hf
        subst hf
        exact am_pick [0, 1, 2, 3, 4, 5] rfl key13
      · rw [if_neg c12] at hf
        refine am_aload_n (am_dec tmX12_findBlows_0 30 rfl) rfl rfl ?_
        refine am_getR (j := 51) hE (am_dec tmX12_findBlows_0 31 rfl) sh_117 cf12 (by decide) rfl lf_X12_94 rf_117_51 ?_
        refine am_iload_n (am_dec tmX12_findBlows_0 32 rfl) rfl rfl ?_
        refine am_iconst (v := (1 : Int32)) (am_dec tmX12_findBlows_0 33 rfl) (by decide) ?_
        refine am_isub (am_dec tmX12_findBlows_0 34 rfl) ?_
        obtain ⟨x14, g15, hf⟩ := am_bd hf
        refine am_iald2 hE (am_dec tmX12_findBlows_0 35 rfl) sh_2629 g15 ?_
        refine am_iload (am_dec tmX12_findBlows_0 36 rfl) rfl ?_
        refine am_aload_n (am_dec tmX12_findBlows_0 37 rfl) rfl rfl ?_
        refine am_getI (j := 19) hE (am_dec tmX12_findBlows_0 38 rfl) sh_117 cf12 (by decide) rfl lf_X12_40 ?_
        refine am_isub (am_dec tmX12_findBlows_0 39 rfl) ?_
        refine am_icmp_ge (tgt := 80) (am_dec tmX12_findBlows_0 40 rfl) (by decide) (fun c16 => ?_) (fun c16 => ?_)
        · rw [if_pos c16] at hf
          refine am_iconst (v := (0 : Int32)) (am_dec tmX12_findBlows_0 43 rfl) (by decide) ?_
          have hf := Option.some.inj hf
          subst hf
          exact am_pick [0, 1, 2, 3, 4, 5] rfl key13
        · rw [if_neg c16] at hf
          refine am_iconst (v := (1 : Int32)) (am_dec tmX12_findBlows_0 41 rfl) (by decide) ?_
          refine am_goto (tgt := 81) (am_dec tmX12_findBlows_0 42 rfl) (by decide) ?_
          have hf := Option.some.inj hf
          subst hf
          exact am_pick [0, 1, 2, 3, 4, 5] rfl key13
set_option maxRecDepth 100000 in
set_option maxHeartbeats 4000000 in
theorem c_X12_findBlows {E : am_E} (hE : am_EH E) {p1 : Nat} {p2 : Int32} {D : am_D} {r : (Int32 × am_D)} (h_p1 : am_sh am_G0 p1 = some (20, am_ln p1)) (hf : f_X12_findBlows p1 p2 D = some r) : am_C E mX12_findBlows 2 0 0 [.ref 117, .ref p1, .int p2] am_G0 D (.inl (some (.int r.1))) am_G0 r.2 := by
  refine am_C_of (by decide +kernel) (Nat.le_of_ble_eq_true rfl) ?_
  change am_S E mX12_findBlows 2 0 0 (.inl (some (.int r.1))) am_G0 r.2 0 0 0 [(0, .ref 117), (1, .ref p1), (2, .int p2)] [] am_G0 D
  unfold f_X12_findBlows at hf
  refine am_iconst (v := (0 : Int32)) (am_dec tmX12_findBlows_0 0 rfl) (by decide) ?_
  refine am_istore_n (lv' := [(0, .ref 117), (1, .ref p1), (2, .int p2), (3, .int (0 : Int32))]) (am_dec tmX12_findBlows_0 1 rfl) rfl (by decide) rfl ?_
  refine am_iconst (v := (0 : Int32)) (am_dec tmX12_findBlows_0 2 rfl) (by decide) ?_
  refine am_istore (lv' := [(0, .ref 117), (1, .ref p1), (2, .int p2), (3, .int (0 : Int32)), (4, .int (0 : Int32))]) (am_dec tmX12_findBlows_0 3 rfl) (by decide) rfl ?_
  obtain ⟨e36, g37, hf⟩ := am_bd hf
  refine am_pick [0, 1, 2, 3, 4] rfl (l_X12_findBlows_L5 hE (Nat.le_refl _) h_p1 am_fu _ _ _ _ g37 (fun ex he => ?_))
  subst he
  refine am_iload_n (am_dec tmX12_findBlows_1 12 rfl) rfl rfl ?_
  have hf := Option.some.inj hf
  subst hf
  exact am_iret (am_dec tmX12_findBlows_1 13 rfl) rfl (Nat.zero_le _) (Nat.zero_le _)
def f_X12_sharp_L89 (q3 : Int32) (q4 : Int32) (q5 : Int32) (q6 : Int32) : Nat → Int32 → am_D → Option (am_D)
  | 0, _, _ => none
  | n + 1, v7, D =>
    if (D.1 117 19) ≤ v7 then
    some (D)
    else
    (am_gI D 2629 1200 q5).bind fun x23 =>
    if (D.1 117 36) ≤ (x23 + v7) then
    some (D)
    else
    if (D.1 117 38) ≤ (q6 + v7) then
    some (D)
    else
    (am_gI D 2629 1200 q5).bind fun x27 =>
    (am_gI D 221 1200 (x27 + v7)).bind fun x29 =>
    (am_pI D 222 1200 (q6 + v7) x29).bind fun D31 =>
    f_X12_sharp_L89 q3 q4 q5 q6 n (v7 + (1 : Int32)) D31
def f_X12_sharp_L55 (q3 : Int32) : Nat → Int32 → Int32 → am_D → Option (Int32 × am_D)
  | 0, _, _, _ => none
  | n + 1, v4, v5, D =>
    if q3 ≤ v5 then
    some (v4, D)
    else
    (am_gI D 2629 1200 v5).bind fun x16 =>
    (f_X12_whereNow x16 D).bind fun x19 =>
    (if x19 = (-1 : Int32) then
    some (v4, D)
    else
    (f_X12_sharp_L89 q3 (v4 + (1 : Int32)) v5 x19 am_fu (0 : Int32) D).bind fun e33 =>
    some ((v4 + (1 : Int32)), e33)).bind fun w35 =>
    f_X12_sharp_L55 q3 n w35.1 (v5 + (1 : Int32)) w35.2
def f_X12_sharp (p1 : Int32) (p2 : Int32) (D : am_D) : Option ((Int32 × am_D)) :=
    (some (am_wI D 117 0 (0 : Int32))).bind fun D1 =>
    (f_X12_badBoth p1 p2 D1).bind fun x4 =>
    if x4.1 = 0 then
    (f_X12_isShort p1 p2 x4.2).bind fun x7 =>
    (f_X12_bad x7 (3 : Int32) x4.2).bind fun x9 =>
    if x9.1 = 0 then
    (f_X12_drawsBoth p1 p2 x9.2).bind fun x12 =>
    (f_X12_findBlows 221 (x12.1 117 36) x12).bind fun x14 =>
    (f_X12_sharp_L55 x14.1 am_fu (0 : Int32) (0 : Int32) x14.2).bind fun e37 =>
    some (e37.1, e37.2)
    else
    some ((0 : Int32), x9.2)
    else
    some ((0 : Int32), x4.2)
set_option maxRecDepth 100000 in
set_option maxHeartbeats 4000000 in
theorem l_X12_sharp_L89 {E : am_E} (hE : am_EH E) {d mc ms : Nat} {o : am_O} {G2 : am_G} {D2 : am_D} (hdp : 6 ≤ d) {q3 : Int32} {q4 : Int32} {q5 : Int32} {q6 : Int32}  : ∀ (n : Nat) (v7 : Int32) (D : am_D) (ex0 : am_D), f_X12_sharp_L89 q3 q4 q5 q6 n v7 D = some ex0 → (∀ ex : am_D, ex0 = ex → am_S E mX12_sharp d mc ms o G2 D2 0 0 158 [(0, .ref 117), (3, .int q3), (4, .int q4), (5, .int q5)] [] am_G0 ex) → am_S E mX12_sharp d mc ms o G2 D2 0 0 89 [(0, .ref 117), (3, .int q3), (4, .int q4), (5, .int q5), (6, .int q6), (7, .int v7)] [] am_G0 D
  | 0, _, _, _, hf, _ => by
    unfold f_X12_sharp_L89 at hf
    cases hf
  | n + 1, v7, D, ex0, hf, hk0 => by
    unfold f_X12_sharp_L89 at hf
    refine am_iload (am_dec tmX12_sharp_0 50 rfl) rfl ?_
    refine am_aload_n (am_dec tmX12_sharp_0 51 rfl) rfl rfl ?_
    refine am_getI (j := 19) hE (am_dec tmX12_sharp_0 52 rfl) sh_117 cf12 (by decide) rfl lf_X12_40 ?_
    refine am_icmp_ge (tgt := 158) (am_dec tmX12_sharp_0 53 rfl) (by decide) (fun c22 => ?_) (fun c22 => ?_)
    · rw [if_pos c22] at hf
      have hf := Option.some.inj hf
      subst hf
      exact am_pick [0, 1, 2, 3] rfl (hk0 _ rfl)
    · rw [if_neg c22] at hf
      refine am_aload_n (am_dec tmX12_sharp_0 54 rfl) rfl rfl ?_
      refine am_getR (j := 51) hE (am_dec tmX12_sharp_0 55 rfl) sh_117 cf12 (by decide) rfl lf_X12_94 rf_117_51 ?_
      refine am_iload (am_dec tmX12_sharp_0 56 rfl) rfl ?_
      obtain ⟨x23, g24, hf⟩ := am_bd hf
      refine am_iald2 hE (am_dec tmX12_sharp_0 57 rfl) sh_2629 g24 ?_
      refine am_iload (am_dec tmX12_sharp_0 58 rfl) rfl ?_
      refine am_iadd (am_dec tmX12_sharp_0 59 rfl) ?_
      refine am_aload_n (am_dec tmX12_sharp_1 0 rfl) rfl rfl ?_
      refine am_getI (j := 36) hE (am_dec tmX12_sharp_1 1 rfl) sh_117 cf12 (by decide) rfl lf_X12_253 ?_
      refine am_icmp_ge (tgt := 158) (am_dec tmX12_sharp_1 2 rfl) (by decide) (fun c25 => ?_) (fun c25 => ?_)
      · rw [if_pos c25] at hf
        have hf := Option.some.inj hf
        subst hf
        exact am_pick [0, 1, 2, 3] rfl (hk0 _ rfl)
      · rw [if_neg c25] at hf
        refine am_iload (am_dec tmX12_sharp_1 3 rfl) rfl ?_
        refine am_iload (am_dec tmX12_sharp_1 4 rfl) rfl ?_
        refine am_iadd (am_dec tmX12_sharp_1 5 rfl) ?_
        refine am_aload_n (am_dec tmX12_sharp_1 6 rfl) rfl rfl ?_
        refine am_getI (j := 38) hE (am_dec tmX12_sharp_1 7 rfl) sh_117 cf12 (by decide) rfl lf_X12_262 ?_
        refine am_icmp_ge (tgt := 158) (am_dec tmX12_sharp_1 8 rfl) (by decide) (fun c26 => ?_) (fun c26 => ?_)
        · rw [if_pos c26] at hf
          have hf := Option.some.inj hf
          subst hf
          exact am_pick [0, 1, 2, 3] rfl (hk0 _ rfl)
        · rw [if_neg c26] at hf
          refine am_aload_n (am_dec tmX12_sharp_1 9 rfl) rfl rfl ?_
          refine am_getR (j := 34) hE (am_dec tmX12_sharp_1 10 rfl) sh_117 cf12 (by decide) rfl lf_X12_73 rf_117_34 ?_
          refine am_iload (am_dec tmX12_sharp_1 11 rfl) rfl ?_
          refine am_iload (am_dec tmX12_sharp_1 12 rfl) rfl ?_
          refine am_iadd (am_dec tmX12_sharp_1 13 rfl) ?_
          refine am_aload_n (am_dec tmX12_sharp_1 14 rfl) rfl rfl ?_
          refine am_getR (j := 33) hE (am_dec tmX12_sharp_1 15 rfl) sh_117 cf12 (by decide) rfl lf_X12_70 rf_117_33 ?_
          refine am_aload_n (am_dec tmX12_sharp_1 16 rfl) rfl rfl ?_
          refine am_getR (j := 51) hE (am_dec tmX12_sharp_1 17 rfl) sh_117 cf12 (by decide) rfl lf_X12_94 rf_117_51 ?_
          refine am_iload (am_dec tmX12_sharp_1 18 rfl) rfl ?_
          obtain ⟨x27, g28, hf⟩ := am_bd hf
          refine am_iald2 hE (am_dec tmX12_sharp_1 19 rfl) sh_2629 g28 ?_
          refine am_iload (am_dec tmX12_sharp_1 20 rfl) rfl ?_
          refine am_iadd (am_dec tmX12_sharp_1 21 rfl) ?_
          obtain ⟨x29, g30, hf⟩ := am_bd hf
          refine am_iald2 hE (am_dec tmX12_sharp_1 22 rfl) sh_221 g30 ?_
          obtain ⟨D31, g32, hf⟩ := am_bd hf
          refine am_iast2 hE (am_dec tmX12_sharp_1 23 rfl) sh_222 g32 ?_
          refine am_iinc (v := (1 : Int32)) (lv' := [(0, .ref 117), (3, .int q3), (4, .int q4), (5, .int q5), (6, .int q6), (7, .int (v7 + (1 : Int32)))]) (am_dec tmX12_sharp_1 24 rfl) rfl (by decide) (by decide) rfl ?_
          refine am_goto (tgt := 89) (am_dec tmX12_sharp_1 25 rfl) (by decide) ?_
          exact am_pick [0, 1, 2, 3, 4, 5] rfl (l_X12_sharp_L89 hE hdp n (v7 + (1 : Int32)) D31 ex0 hf hk0)
set_option maxRecDepth 100000 in
set_option maxHeartbeats 4000000 in
theorem l_X12_sharp_L55 {E : am_E} (hE : am_EH E) {d mc ms : Nat} {o : am_O} {G2 : am_G} {D2 : am_D} (hdp : 6 ≤ d) {q3 : Int32}  : ∀ (n : Nat) (v4 : Int32) (v5 : Int32) (D : am_D) (ex0 : Int32 × am_D), f_X12_sharp_L55 q3 n v4 v5 D = some ex0 → (∀ ex : Int32 × am_D, ex0 = ex → am_S E mX12_sharp d mc ms o G2 D2 0 0 164 [(4, .int ex.1)] [] am_G0 ex.2) → am_S E mX12_sharp d mc ms o G2 D2 0 0 55 [(0, .ref 117), (3, .int q3), (4, .int v4), (5, .int v5)] [] am_G0 D
  | 0, _, _, _, _, hf, _ => by
    unfold f_X12_sharp_L55 at hf
    cases hf
  | n + 1, v4, v5, D, ex0, hf, hk0 => by
    unfold f_X12_sharp_L55 at hf
    refine am_iload (am_dec tmX12_sharp_0 33 rfl) rfl ?_
    refine am_iload_n (am_dec tmX12_sharp_0 34 rfl) rfl rfl ?_
    refine am_icmp_ge (tgt := 164) (am_dec tmX12_sharp_0 35 rfl) (by decide) (fun c15 => ?_) (fun c15 => ?_)
    · rw [if_pos c15] at hf
      have hf := Option.some.inj hf
      subst hf
      exact am_pick [2] rfl (hk0 _ rfl)
    · rw [if_neg c15] at hf
      refine am_aload_n (am_dec tmX12_sharp_0 36 rfl) rfl rfl ?_
      refine am_aload_n (am_dec tmX12_sharp_0 37 rfl) rfl rfl ?_
      refine am_getR (j := 51) hE (am_dec tmX12_sharp_0 38 rfl) sh_117 cf12 (by decide) rfl lf_X12_94 rf_117_51 ?_
      refine am_iload (am_dec tmX12_sharp_0 39 rfl) rfl ?_
      obtain ⟨x16, g17, hf⟩ := am_bd hf
      refine am_iald2 hE (am_dec tmX12_sharp_0 40 rfl) sh_2629 g17 ?_
      obtain ⟨x19, g18, hf⟩ := am_bd hf
      refine am_callV1 (As := [.int x16]) (st := []) hE (am_dec tmX12_sharp_0 41 rfl) ok_X12_whereNow rfl lm_X12_247 in_X12_whereNow se_X12_whereNow sh_117 cf12 (c_X12_whereNow hE g18) rfl (Nat.lt_of_lt_of_le (by decide) hdp) (Nat.le_of_ble_eq_true rfl) (Nat.zero_le _) (Nat.zero_le _) rfl ?_
      refine am_istore (lv' := [(0, .ref 117), (3, .int q3), (4, .int v4), (5, .int v5), (6, .int x19)]) (am_dec tmX12_sharp_0 42 rfl) (by decide) rfl ?_
      refine am_iload (am_dec tmX12_sharp_0 43 rfl) rfl ?_
      refine am_iconst (v := (-1 : Int32)) (am_dec tmX12_sharp_0 44 rfl) (by decide) ?_
      obtain ⟨w35, g36, hf⟩ := am_bd hf
      have key21 : am_S E mX12_sharp d mc ms o G2 D2 0 0 158 [(0, .ref 117), (3, .int q3), (4, .int w35.1), (5, .int v5)] [] am_G0 w35.2 := by
        refine am_iinc (v := (1 : Int32)) (lv' := [(0, .ref 117), (3, .int q3), (4, .int w35.1), (5, .int (v5 + (1 : Int32)))]) (am_dec tmX12_sharp_1 26 rfl) rfl (by decide) (by decide) rfl ?_
        refine am_goto (tgt := 55) (am_dec tmX12_sharp_1 27 rfl) (by decide) ?_
        exact am_pick [0, 1, 2, 3] rfl (l_X12_sharp_L55 hE hdp n w35.1 (v5 + (1 : Int32)) w35.2 ex0 hf hk0)
      replace hf := g36
      refine am_icmp_ne (tgt := 83) (am_dec tmX12_sharp_0 45 rfl) (by decide) (fun c20 => ?_) (fun c20 => ?_)
      · rw [if_neg c20] at hf
        refine am_iinc (v := (1 : Int32)) (lv' := [(0, .ref 117), (3, .int q3), (4, .int (v4 + (1 : Int32))), (5, .int v5), (6, .int x19)]) (am_dec tmX12_sharp_0 47 rfl) rfl (by decide) (by decide) rfl ?_
        refine am_iconst (v := (0 : Int32)) (am_dec tmX12_sharp_0 48 rfl) (by decide) ?_
        refine am_istore (lv' := [(0, .ref 117), (3, .int q3), (4, .int (v4 + (1 : Int32))), (5, .int v5), (6, .int x19), (7, .int (0 : Int32))]) (am_dec tmX12_sharp_0 49 rfl) (by decide) rfl ?_
        obtain ⟨e33, g34, hf⟩ := am_bd hf
        refine am_pick [0, 1, 2, 3, 4, 5] rfl (l_X12_sharp_L89 hE hdp am_fu _ _ _ g34 (fun ex he => ?_))
        subst he
        have hf := Option.some.inj hf
        subst hf
        exact am_pick [0, 1, 2, 3] rfl key21
      · rw [if_pos c20] at hf
        refine am_goto (tgt := 158) (am_dec tmX12_sharp_0 46 rfl) (by decide) ?_
        have hf := Option.some.inj hf
        subst hf
        exact am_pick [0, 1, 2, 3] rfl key21
set_option maxRecDepth 100000 in
set_option maxHeartbeats 4000000 in
theorem c_X12_sharp {E : am_E} (hE : am_EH E) {p1 : Int32} {p2 : Int32} {D : am_D} {r : (Int32 × am_D)}  (hf : f_X12_sharp p1 p2 D = some r) : am_C E mX12_sharp 6 0 0 [.ref 117, .int p1, .int p2] am_G0 D (.inl (some (.int r.1))) am_G0 r.2 := by
  refine am_C_of (by decide +kernel) (Nat.le_of_ble_eq_true rfl) ?_
  change am_S E mX12_sharp 6 0 0 (.inl (some (.int r.1))) am_G0 r.2 0 0 0 [(0, .ref 117), (1, .int p1), (2, .int p2)] [] am_G0 D
  unfold f_X12_sharp at hf
  refine am_aload_n (am_dec tmX12_sharp_0 0 rfl) rfl rfl ?_
  refine am_iconst (v := (0 : Int32)) (am_dec tmX12_sharp_0 1 rfl) (by decide) ?_
  obtain ⟨D1, g2, hf⟩ := am_bd hf
  refine am_putI2 (j := 0) hE (am_dec tmX12_sharp_0 2 rfl) sh_117 cf12 (by decide) rfl lf_X12_110 rfl rfl rfl g2 ?_
  refine am_aload_n (am_dec tmX12_sharp_0 3 rfl) rfl rfl ?_
  refine am_iload_n (am_dec tmX12_sharp_0 4 rfl) rfl rfl ?_
  refine am_iload_n (am_dec tmX12_sharp_0 5 rfl) rfl rfl ?_
  obtain ⟨x4, g3, hf⟩ := am_bd hf
  refine am_callV1 (As := [.int p1, .int p2]) (st := []) hE (am_dec tmX12_sharp_0 6 rfl) ok_X12_badBoth rfl lm_X12_296 in_X12_badBoth se_X12_badBoth sh_117 cf12 (c_X12_badBoth hE g3) rfl (by decide) (Nat.le_of_ble_eq_true rfl) (Nat.zero_le _) (Nat.zero_le _) rfl ?_
  refine am_if_ne (tgt := 28) (am_dec tmX12_sharp_0 7 rfl) (by decide) (fun c5 => ?_) (fun c5 => ?_)
  · rw [if_neg c5] at hf
    refine am_iconst (v := (0 : Int32)) (am_dec tmX12_sharp_0 16 rfl) (by decide) ?_
    have hf := Option.some.inj hf
    subst hf
    exact am_iret (am_dec tmX12_sharp_0 17 rfl) rfl (Nat.zero_le _) (Nat.zero_le _)
  · rw [if_pos c5] at hf
    refine am_aload_n (am_dec tmX12_sharp_0 8 rfl) rfl rfl ?_
    refine am_aload_n (am_dec tmX12_sharp_0 9 rfl) rfl rfl ?_
    refine am_iload_n (am_dec tmX12_sharp_0 10 rfl) rfl rfl ?_
    refine am_iload_n (am_dec tmX12_sharp_0 11 rfl) rfl rfl ?_
    obtain ⟨x7, g6, hf⟩ := am_bd hf
    refine am_callV1 (As := [.int p1, .int p2]) (st := [.ref 117]) hE (am_dec tmX12_sharp_0 12 rfl) ok_X12_isShort rfl lm_X12_300 in_X12_isShort se_X12_isShort sh_117 cf12 (c_X12_isShort hE g6) rfl (by decide) (Nat.le_of_ble_eq_true rfl) (Nat.zero_le _) (Nat.zero_le _) rfl ?_
    refine am_iconst (v := (3 : Int32)) (am_dec tmX12_sharp_0 13 rfl) (by decide) ?_
    obtain ⟨x9, g8, hf⟩ := am_bd hf
    refine am_callV1 (As := [.int x7, .int (3 : Int32)]) (st := []) hE (am_dec tmX12_sharp_0 14 rfl) ok_X12_bad rfl lm_X12_191 in_X12_bad se_X12_bad sh_117 cf12 (c_X12_bad hE g8) rfl (by decide) (Nat.le_of_ble_eq_true rfl) (Nat.zero_le _) (Nat.zero_le _) rfl ?_
    refine am_if_eq (tgt := 30) (am_dec tmX12_sharp_0 15 rfl) (by decide) (fun c10 => ?_) (fun c10 => ?_)
    · rw [if_pos c10] at hf
      refine am_aload_n (am_dec tmX12_sharp_0 18 rfl) rfl rfl ?_
      refine am_iload_n (am_dec tmX12_sharp_0 19 rfl) rfl rfl ?_
      refine am_iload_n (am_dec tmX12_sharp_0 20 rfl) rfl rfl ?_
      obtain ⟨x12, g11, hf⟩ := am_bd hf
      refine am_callV0 (As := [.int p1, .int p2]) (st := []) hE (am_dec tmX12_sharp_0 21 rfl) ok_X12_drawsBoth rfl lm_X12_303 in_X12_drawsBoth se_X12_drawsBoth sh_117 cf12 (c_X12_drawsBoth hE g11) rfl (by decide) (Nat.le_of_ble_eq_true rfl) (Nat.zero_le _) (Nat.zero_le _) rfl ?_
      refine am_aload_n (am_dec tmX12_sharp_0 22 rfl) rfl rfl ?_
      refine am_aload_n (am_dec tmX12_sharp_0 23 rfl) rfl rfl ?_
      refine am_getR (j := 33) hE (am_dec tmX12_sharp_0 24 rfl) sh_117 cf12 (by decide) rfl lf_X12_70 rf_117_33 ?_
      refine am_aload_n (am_dec tmX12_sharp_0 25 rfl) rfl rfl ?_
      refine am_getI (j := 36) hE (am_dec tmX12_sharp_0 26 rfl) sh_117 cf12 (by decide) rfl lf_X12_253 ?_
      obtain ⟨x14, g13, hf⟩ := am_bd hf
      refine am_callV1 (As := [.ref 221, .int (x12.1 117 36)]) (st := []) hE (am_dec tmX12_sharp_0 27 rfl) ok_X12_findBlows rfl lm_X12_309 in_X12_findBlows se_X12_findBlows sh_117 cf12 (c_X12_findBlows hE (am_shl sh_221) g13) rfl (by decide) (Nat.le_of_ble_eq_true rfl) (Nat.zero_le _) (Nat.zero_le _) rfl ?_
      refine am_istore_n (lv' := [(0, .ref 117), (1, .int p1), (2, .int p2), (3, .int x14.1)]) (am_dec tmX12_sharp_0 28 rfl) rfl (by decide) rfl ?_
      refine am_iconst (v := (0 : Int32)) (am_dec tmX12_sharp_0 29 rfl) (by decide) ?_
      refine am_istore (lv' := [(0, .ref 117), (1, .int p1), (2, .int p2), (3, .int x14.1), (4, .int (0 : Int32))]) (am_dec tmX12_sharp_0 30 rfl) (by decide) rfl ?_
      refine am_iconst (v := (0 : Int32)) (am_dec tmX12_sharp_0 31 rfl) (by decide) ?_
      refine am_istore (lv' := [(0, .ref 117), (1, .int p1), (2, .int p2), (3, .int x14.1), (4, .int (0 : Int32)), (5, .int (0 : Int32))]) (am_dec tmX12_sharp_0 32 rfl) (by decide) rfl ?_
      obtain ⟨e37, g38, hf⟩ := am_bd hf
      refine am_pick [0, 3, 4, 5] rfl (l_X12_sharp_L55 hE (Nat.le_refl _) am_fu _ _ _ _ g38 (fun ex he => ?_))
      subst he
      refine am_iload (am_dec tmX12_sharp_1 28 rfl) rfl ?_
      have hf := Option.some.inj hf
      subst hf
      exact am_iret (am_dec tmX12_sharp_1 29 rfl) rfl (Nat.zero_le _) (Nat.zero_le _)
    · rw [if_neg c10] at hf
      refine am_iconst (v := (0 : Int32)) (am_dec tmX12_sharp_0 16 rfl) (by decide) ?_
      have hf := Option.some.inj hf
      subst hf
      exact am_iret (am_dec tmX12_sharp_0 17 rfl) rfl (Nat.zero_le _) (Nat.zero_le _)
def f_X12_length (D : am_D) : Option ((Int32 × am_D)) :=
    (some (am_wI D 117 0 (0 : Int32))).bind fun D1 =>
    some ((D1.1 117 38), D1)
set_option maxRecDepth 100000 in
set_option maxHeartbeats 4000000 in
theorem c_X12_length {E : am_E} (hE : am_EH E) {D : am_D} {r : (Int32 × am_D)}  (hf : f_X12_length D = some r) : am_C E mX12_length 1 0 0 [.ref 117] am_G0 D (.inl (some (.int r.1))) am_G0 r.2 := by
  refine am_C_of (by decide +kernel) (Nat.le_of_ble_eq_true rfl) ?_
  change am_S E mX12_length 1 0 0 (.inl (some (.int r.1))) am_G0 r.2 0 0 0 [(0, .ref 117)] [] am_G0 D
  unfold f_X12_length at hf
  refine am_aload_n (am_dec tmX12_length 0 rfl) rfl rfl ?_
  refine am_iconst (v := (0 : Int32)) (am_dec tmX12_length 1 rfl) (by decide) ?_
  obtain ⟨D1, g2, hf⟩ := am_bd hf
  refine am_putI2 (j := 0) hE (am_dec tmX12_length 2 rfl) sh_117 cf12 (by decide) rfl lf_X12_110 rfl rfl rfl g2 ?_
  refine am_aload_n (am_dec tmX12_length 3 rfl) rfl rfl ?_
  refine am_getI (j := 38) hE (am_dec tmX12_length 4 rfl) sh_117 cf12 (by decide) rfl lf_X12_262 ?_
  have hf := Option.some.inj hf
  subst hf
  exact am_iret (am_dec tmX12_length 5 rfl) rfl (Nat.zero_le _) (Nat.zero_le _)
def f_X12_result (p1 : Int32) (D : am_D) : Option ((Int32 × am_D)) :=
    (some (am_wI D 117 0 (0 : Int32))).bind fun D1 =>
    (f_X12_in p1 (0 : Int32) ((D1.1 117 38) - (1 : Int32))).bind fun x4 =>
    if x4 = 0 then
    some ((-5000 : Int32), D1)
    else
    (am_gI D1 222 1200 p1).bind fun x6 =>
    some (x6, D1)
set_option maxRecDepth 100000 in
set_option maxHeartbeats 4000000 in
theorem c_X12_result {E : am_E} (hE : am_EH E) {p1 : Int32} {D : am_D} {r : (Int32 × am_D)}  (hf : f_X12_result p1 D = some r) : am_C E mX12_result 2 0 0 [.ref 117, .int p1] am_G0 D (.inl (some (.int r.1))) am_G0 r.2 := by
  refine am_C_of (by decide +kernel) (Nat.le_of_ble_eq_true rfl) ?_
  change am_S E mX12_result 2 0 0 (.inl (some (.int r.1))) am_G0 r.2 0 0 0 [(0, .ref 117), (1, .int p1)] [] am_G0 D
  unfold f_X12_result at hf
  refine am_aload_n (am_dec tmX12_result 0 rfl) rfl rfl ?_
  refine am_iconst (v := (0 : Int32)) (am_dec tmX12_result 1 rfl) (by decide) ?_
  obtain ⟨D1, g2, hf⟩ := am_bd hf
  refine am_putI2 (j := 0) hE (am_dec tmX12_result 2 rfl) sh_117 cf12 (by decide) rfl lf_X12_110 rfl rfl rfl g2 ?_
  refine am_iload_n (am_dec tmX12_result 3 rfl) rfl rfl ?_
  refine am_iconst (v := (0 : Int32)) (am_dec tmX12_result 4 rfl) (by decide) ?_
  refine am_aload_n (am_dec tmX12_result 5 rfl) rfl rfl ?_
  refine am_getI (j := 38) hE (am_dec tmX12_result 6 rfl) sh_117 cf12 (by decide) rfl lf_X12_262 ?_
  refine am_iconst (v := (1 : Int32)) (am_dec tmX12_result 7 rfl) (by decide) ?_
  refine am_isub (am_dec tmX12_result 8 rfl) ?_
  obtain ⟨x4, g3, hf⟩ := am_bd hf
  refine am_callS1 (As := [.int p1, .int (0 : Int32), .int ((D1.1 117 38) - (1 : Int32))]) (st := []) (am_dec tmX12_result 9 rfl) ok_X12_in rfl lm_X12_144 st_X12_in (c_X12_in hE g3) rfl (by decide) (Nat.le_of_ble_eq_true rfl) (Nat.zero_le _) (Nat.zero_le _) rfl ?_
  refine am_if_eq (tgt := 28) (am_dec tmX12_result 10 rfl) (by decide) (fun c5 => ?_) (fun c5 => ?_)
  · rw [if_pos c5] at hf
    refine am_sipush (v := (-5000 : Int32)) (am_dec tmX12_result 16 rfl) (by decide) ?_
    have hf := Option.some.inj hf
    subst hf
    exact am_iret (am_dec tmX12_result 17 rfl) rfl (Nat.zero_le _) (Nat.zero_le _)
  · rw [if_neg c5] at hf
    refine am_aload_n (am_dec tmX12_result 11 rfl) rfl rfl ?_
    refine am_getR (j := 34) hE (am_dec tmX12_result 12 rfl) sh_117 cf12 (by decide) rfl lf_X12_73 rf_117_34 ?_
    refine am_iload_n (am_dec tmX12_result 13 rfl) rfl rfl ?_
    obtain ⟨x6, g7, hf⟩ := am_bd hf
    refine am_iald2 hE (am_dec tmX12_result 14 rfl) sh_222 g7 ?_
    refine am_goto (tgt := 31) (am_dec tmX12_result 15 rfl) (by decide) ?_
    have hf := Option.some.inj hf
    subst hf
    exact am_iret (am_dec tmX12_result 17 rfl) rfl (Nat.zero_le _) (Nat.zero_le _)
def f_X12_seam (p1 : Int32) (p2 : Int32) (D : am_D) : Option ((Int32 × am_D)) :=
    (some (am_wI D 117 0 (0 : Int32))).bind fun D1 =>
    (f_X12_in p2 (0 : Int32) (2 : Int32)).bind fun x4 =>
    (if x4 = 0 then
    some ((1 : Int32))
    else
    some ((0 : Int32))).bind fun w7 =>
    (f_X12_bad w7 (1 : Int32) D1).bind fun x9 =>
    if x9.1 = 0 then
    (f_X12_in p1 (0 : Int32) ((x9.2.1 117 39) - (1 : Int32))).bind fun x12 =>
    if x12 = 0 then
    some ((-5000 : Int32), x9.2)
    else
    (am_gA 1200 p1).bind fun j14 =>
    (am_gI x9.2 (225 + j14) 3 p2).bind fun x16 =>
    some (x16, x9.2)
    else
    some ((0 : Int32), x9.2)
set_option maxRecDepth 100000 in
set_option maxHeartbeats 4000000 in
theorem c_X12_seam {E : am_E} (hE : am_EH E) {p1 : Int32} {p2 : Int32} {D : am_D} {r : (Int32 × am_D)}  (hf : f_X12_seam p1 p2 D = some r) : am_C E mX12_seam 2 0 0 [.ref 117, .int p1, .int p2] am_G0 D (.inl (some (.int r.1))) am_G0 r.2 := by
  refine am_C_of (by decide +kernel) (Nat.le_of_ble_eq_true rfl) ?_
  change am_S E mX12_seam 2 0 0 (.inl (some (.int r.1))) am_G0 r.2 0 0 0 [(0, .ref 117), (1, .int p1), (2, .int p2)] [] am_G0 D
  unfold f_X12_seam at hf
  refine am_aload_n (am_dec tmX12_seam 0 rfl) rfl rfl ?_
  refine am_iconst (v := (0 : Int32)) (am_dec tmX12_seam 1 rfl) (by decide) ?_
  obtain ⟨D1, g2, hf⟩ := am_bd hf
  refine am_putI2 (j := 0) hE (am_dec tmX12_seam 2 rfl) sh_117 cf12 (by decide) rfl lf_X12_110 rfl rfl rfl g2 ?_
  refine am_aload_n (am_dec tmX12_seam 3 rfl) rfl rfl ?_
  refine am_iload_n (am_dec tmX12_seam 4 rfl) rfl rfl ?_
  refine am_iconst (v := (0 : Int32)) (am_dec tmX12_seam 5 rfl) (by decide) ?_
  refine am_iconst (v := (2 : Int32)) (am_dec tmX12_seam 6 rfl) (by decide) ?_
  obtain ⟨x4, g3, hf⟩ := am_bd hf
  refine am_callS1 (As := [.int p2, .int (0 : Int32), .int (2 : Int32)]) (st := [.ref 117]) (am_dec tmX12_seam 7 rfl) ok_X12_in rfl lm_X12_144 st_X12_in (c_X12_in hE g3) rfl (by decide) (Nat.le_of_ble_eq_true rfl) (Nat.zero_le _) (Nat.zero_le _) rfl ?_
  obtain ⟨w7, g18, hf⟩ := am_bd hf
  have key6 : am_S E mX12_seam 2 0 0 (.inl (some (.int r.1))) am_G0 r.2 0 0 20 [(0, .ref 117), (1, .int p1), (2, .int p2)] [.int w7, .ref 117] am_G0 D1 := by
    refine am_iconst (v := (1 : Int32)) (am_dec tmX12_seam 12 rfl) (by decide) ?_
    obtain ⟨x9, g8, hf⟩ := am_bd hf
    refine am_callV1 (As := [.int w7, .int (1 : Int32)]) (st := []) hE (am_dec tmX12_seam 13 rfl) ok_X12_bad rfl lm_X12_191 in_X12_bad se_X12_bad sh_117 cf12 (c_X12_bad hE g8) rfl (by decide) (Nat.le_of_ble_eq_true rfl) (Nat.zero_le _) (Nat.zero_le _) rfl ?_
    refine am_if_eq (tgt := 29) (am_dec tmX12_seam 14 rfl) (by decide) (fun c10 => ?_) (fun c10 => ?_)
    · rw [if_pos c10] at hf
      refine am_iload_n (am_dec tmX12_seam 17 rfl) rfl rfl ?_
      refine am_iconst (v := (0 : Int32)) (am_dec tmX12_seam 18 rfl) (by decide) ?_
      refine am_aload_n (am_dec tmX12_seam 19 rfl) rfl rfl ?_
      refine am_getI (j := 39) hE (am_dec tmX12_seam 20 rfl) sh_117 cf12 (by decide) rfl lf_X12_250 ?_
      refine am_iconst (v := (1 : Int32)) (am_dec tmX12_seam 21 rfl) (by decide) ?_
      refine am_isub (am_dec tmX12_seam 22 rfl) ?_
      obtain ⟨x12, g11, hf⟩ := am_bd hf
      refine am_callS1 (As := [.int p1, .int (0 : Int32), .int ((x9.2.1 117 39) - (1 : Int32))]) (st := []) (am_dec tmX12_seam 23 rfl) ok_X12_in rfl lm_X12_144 st_X12_in (c_X12_in hE g11) rfl (by decide) (Nat.le_of_ble_eq_true rfl) (Nat.zero_le _) (Nat.zero_le _) rfl ?_
      refine am_if_eq (tgt := 54) (am_dec tmX12_seam 24 rfl) (by decide) (fun c13 => ?_) (fun c13 => ?_)
      · rw [if_pos c13] at hf
        refine am_sipush (v := (-5000 : Int32)) (am_dec tmX12_seam 32 rfl) (by decide) ?_
        have hf := Option.some.inj hf
        subst hf
        exact am_iret (am_dec tmX12_seam 33 rfl) rfl (Nat.zero_le _) (Nat.zero_le _)
      · rw [if_neg c13] at hf
        refine am_aload_n (am_dec tmX12_seam 25 rfl) rfl rfl ?_
        refine am_getR (j := 41) hE (am_dec tmX12_seam 26 rfl) sh_117 cf12 (by decide) rfl lf_X12_79 rf_117_41 ?_
        refine am_iload_n (am_dec tmX12_seam 27 rfl) rfl rfl ?_
        obtain ⟨j14, g15, hf⟩ := am_bd hf
        have hj_j14 := (am_gA_lt g15).1
        refine am_aald2 (t := 6) hE (am_dec tmX12_seam 28 rfl) sh_224 (by decide) rfl rfl g15 (rr_224 hj_j14) ?_
        refine am_iload_n (am_dec tmX12_seam 29 rfl) rfl rfl ?_
        obtain ⟨x16, g17, hf⟩ := am_bd hf
        refine am_iald2 hE (am_dec tmX12_seam 30 rfl) (sa_224_0 hj_j14) g17 ?_
        refine am_goto (tgt := 57) (am_dec tmX12_seam 31 rfl) (by decide) ?_
        have hf := Option.some.inj hf
        subst hf
        exact am_iret (am_dec tmX12_seam 33 rfl) rfl (Nat.zero_le _) (Nat.zero_le _)
    · rw [if_neg c10] at hf
      refine am_iconst (v := (0 : Int32)) (am_dec tmX12_seam 15 rfl) (by decide) ?_
      have hf := Option.some.inj hf
      subst hf
      exact am_iret (am_dec tmX12_seam 16 rfl) rfl (Nat.zero_le _) (Nat.zero_le _)
  replace hf := g18
  refine am_if_ne (tgt := 19) (am_dec tmX12_seam 8 rfl) (by decide) (fun c5 => ?_) (fun c5 => ?_)
  · rw [if_neg c5] at hf
    refine am_iconst (v := (0 : Int32)) (am_dec tmX12_seam 11 rfl) (by decide) ?_
    have hf := Option.some.inj hf
    subst hf
    exact am_pick [0, 1, 2] rfl key6
  · rw [if_pos c5] at hf
    refine am_iconst (v := (1 : Int32)) (am_dec tmX12_seam 9 rfl) (by decide) ?_
    refine am_goto (tgt := 20) (am_dec tmX12_seam 10 rfl) (by decide) ?_
    have hf := Option.some.inj hf
    subst hf
    exact am_pick [0, 1, 2] rfl key6
def f_X12_keep (D : am_D) : Option ((Int32 × am_D)) :=
    (some (am_wI D 117 0 (0 : Int32))).bind fun D1 =>
    if (D1.1 117 12) = (5 : Int32) then
    some ((-1 : Int32), D1)
    else
    if (D1.1 117 38) = 0 then
    some ((-2 : Int32), D1)
    else
    if (D1.1 117 38) ≤ (600 : Int32) then
    (f_X12_keeps 222 (D1.1 117 38) D1).bind fun x7 =>
    some (x7.1, x7.2)
    else
    some ((-2 : Int32), D1)
set_option maxRecDepth 100000 in
set_option maxHeartbeats 4000000 in
theorem c_X12_keep {E : am_E} (hE : am_EH E) {D : am_D} {r : (Int32 × am_D)}  (hf : f_X12_keep D = some r) : am_C E mX12_keep 2 0 0 [.ref 117] am_G0 D (.inl (some (.int r.1))) am_G0 r.2 := by
  refine am_C_of (by decide +kernel) (Nat.le_of_ble_eq_true rfl) ?_
  change am_S E mX12_keep 2 0 0 (.inl (some (.int r.1))) am_G0 r.2 0 0 0 [(0, .ref 117)] [] am_G0 D
  unfold f_X12_keep at hf
  refine am_aload_n (am_dec tmX12_keep 0 rfl) rfl rfl ?_
  refine am_iconst (v := (0 : Int32)) (am_dec tmX12_keep 1 rfl) (by decide) ?_
  obtain ⟨D1, g2, hf⟩ := am_bd hf
  refine am_putI2 (j := 0) hE (am_dec tmX12_keep 2 rfl) sh_117 cf12 (by decide) rfl lf_X12_110 rfl rfl rfl g2 ?_
  refine am_aload_n (am_dec tmX12_keep 3 rfl) rfl rfl ?_
  refine am_getI (j := 12) hE (am_dec tmX12_keep 4 rfl) sh_117 cf12 (by decide) rfl lf_X12_195 ?_
  refine am_iconst (v := (5 : Int32)) (am_dec tmX12_keep 5 rfl) (by decide) ?_
  refine am_icmp_ne (tgt := 15) (am_dec tmX12_keep 6 rfl) (by decide) (fun c3 => ?_) (fun c3 => ?_)
  · rw [if_neg c3] at hf
    refine am_aload_n (am_dec tmX12_keep 9 rfl) rfl rfl ?_
    refine am_getI (j := 38) hE (am_dec tmX12_keep 10 rfl) sh_117 cf12 (by decide) rfl lf_X12_262 ?_
    refine am_if_eq (tgt := 32) (am_dec tmX12_keep 11 rfl) (by decide) (fun c4 => ?_) (fun c4 => ?_)
    · rw [if_pos c4] at hf
      refine am_bipush (v := (-2 : Int32)) (am_dec tmX12_keep 16 rfl) (by decide) ?_
      have hf := Option.some.inj hf
      subst hf
      exact am_iret (am_dec tmX12_keep 17 rfl) rfl (Nat.zero_le _) (Nat.zero_le _)
    · rw [if_neg c4] at hf
      refine am_aload_n (am_dec tmX12_keep 12 rfl) rfl rfl ?_
      refine am_getI (j := 38) hE (am_dec tmX12_keep 13 rfl) sh_117 cf12 (by decide) rfl lf_X12_262 ?_
      refine am_sipush (v := (600 : Int32)) (am_dec tmX12_keep 14 rfl) (by decide) ?_
      refine am_icmp_le (tgt := 35) (am_dec tmX12_keep 15 rfl) (by decide) (fun c5 => ?_) (fun c5 => ?_)
      · rw [if_pos c5] at hf
        refine am_aload_n (am_dec tmX12_keep 18 rfl) rfl rfl ?_
        refine am_aload_n (am_dec tmX12_keep 19 rfl) rfl rfl ?_
        refine am_getR (j := 34) hE (am_dec tmX12_keep 20 rfl) sh_117 cf12 (by decide) rfl lf_X12_73 rf_117_34 ?_
        refine am_aload_n (am_dec tmX12_keep 21 rfl) rfl rfl ?_
        refine am_getI (j := 38) hE (am_dec tmX12_keep 22 rfl) sh_117 cf12 (by decide) rfl lf_X12_262 ?_
        obtain ⟨x7, g6, hf⟩ := am_bd hf
        refine am_callV1 (As := [.ref 222, .int (D1.1 117 38)]) (st := []) hE (am_dec tmX12_keep 23 rfl) ok_X12_keeps rfl lm_X12_204 in_X12_keeps se_X12_keeps sh_117 cf12 (c_X12_keeps hE (am_shl sh_222) g6) rfl (by decide) (Nat.le_of_ble_eq_true rfl) (Nat.zero_le _) (Nat.zero_le _) rfl ?_
        have hf := Option.some.inj hf
        subst hf
        exact am_iret (am_dec tmX12_keep 24 rfl) rfl (Nat.zero_le _) (Nat.zero_le _)
      · rw [if_neg c5] at hf
        refine am_bipush (v := (-2 : Int32)) (am_dec tmX12_keep 16 rfl) (by decide) ?_
        have hf := Option.some.inj hf
        subst hf
        exact am_iret (am_dec tmX12_keep 17 rfl) rfl (Nat.zero_le _) (Nat.zero_le _)
  · rw [if_pos c3] at hf
    refine am_iconst (v := (-1 : Int32)) (am_dec tmX12_keep 7 rfl) (by decide) ?_
    have hf := Option.some.inj hf
    subst hf
    exact am_iret (am_dec tmX12_keep 8 rfl) rfl (Nat.zero_le _) (Nat.zero_le _)
def f_X12_blowing (p1 : Int32) (p2 : Int32) (p3 : Int32) (D : am_D) : Option ((Int32 × am_D)) :=
    (some (am_wI D 117 0 (0 : Int32))).bind fun D1 =>
    (f_X12_in p1 (1 : Int32) (2047 : Int32)).bind fun x4 =>
    (if x4 = 0 then
    some ((1 : Int32))
    else
    (f_X12_in p2 (1 : Int32) (20 : Int32)).bind fun x8 =>
    if x8 = 0 then
    some ((1 : Int32))
    else
    (f_X12_in p3 (1 : Int32) (40 : Int32)).bind fun x11 =>
    if x11 = 0 then
    some ((1 : Int32))
    else
    some ((0 : Int32))).bind fun w13 =>
    (f_X12_bad w13 (1 : Int32) D1).bind fun x15 =>
    if x15.1 = 0 then
    (some (am_wI x15.2 117 17 p1)).bind fun D17 =>
    (some (am_wI D17 117 18 p2)).bind fun D19 =>
    (some (am_wI D19 117 19 p3)).bind fun D21 =>
    some ((x15.2.1 117 17), D21)
    else
    some ((0 : Int32), x15.2)
set_option maxRecDepth 100000 in
set_option maxHeartbeats 4000000 in
theorem c_X12_blowing {E : am_E} (hE : am_EH E) {p1 : Int32} {p2 : Int32} {p3 : Int32} {D : am_D} {r : (Int32 × am_D)}  (hf : f_X12_blowing p1 p2 p3 D = some r) : am_C E mX12_blowing 2 0 0 [.ref 117, .int p1, .int p2, .int p3] am_G0 D (.inl (some (.int r.1))) am_G0 r.2 := by
  refine am_C_of (by decide +kernel) (Nat.le_of_ble_eq_true rfl) ?_
  change am_S E mX12_blowing 2 0 0 (.inl (some (.int r.1))) am_G0 r.2 0 0 0 [(0, .ref 117), (1, .int p1), (2, .int p2), (3, .int p3)] [] am_G0 D
  unfold f_X12_blowing at hf
  refine am_aload_n (am_dec tmX12_blowing 0 rfl) rfl rfl ?_
  refine am_iconst (v := (0 : Int32)) (am_dec tmX12_blowing 1 rfl) (by decide) ?_
  obtain ⟨D1, g2, hf⟩ := am_bd hf
  refine am_putI2 (j := 0) hE (am_dec tmX12_blowing 2 rfl) sh_117 cf12 (by decide) rfl lf_X12_110 rfl rfl rfl g2 ?_
  refine am_aload_n (am_dec tmX12_blowing 3 rfl) rfl rfl ?_
  refine am_iload_n (am_dec tmX12_blowing 4 rfl) rfl rfl ?_
  refine am_iconst (v := (1 : Int32)) (am_dec tmX12_blowing 5 rfl) (by decide) ?_
  refine am_sipush (v := (2047 : Int32)) (am_dec tmX12_blowing 6 rfl) (by decide) ?_
  obtain ⟨x4, g3, hf⟩ := am_bd hf
  refine am_callS1 (As := [.int p1, .int (1 : Int32), .int (2047 : Int32)]) (st := [.ref 117]) (am_dec tmX12_blowing 7 rfl) ok_X12_in rfl lm_X12_144 st_X12_in (c_X12_in hE g3) rfl (by decide) (Nat.le_of_ble_eq_true rfl) (Nat.zero_le _) (Nat.zero_le _) rfl ?_
  obtain ⟨w13, g23, hf⟩ := am_bd hf
  have key6 : am_S E mX12_blowing 2 0 0 (.inl (some (.int r.1))) am_G0 r.2 0 0 42 [(0, .ref 117), (1, .int p1), (2, .int p2), (3, .int p3)] [.int w13, .ref 117] am_G0 D1 := by
    refine am_iconst (v := (1 : Int32)) (am_dec tmX12_blowing 22 rfl) (by decide) ?_
    obtain ⟨x15, g14, hf⟩ := am_bd hf
    refine am_callV1 (As := [.int w13, .int (1 : Int32)]) (st := []) hE (am_dec tmX12_blowing 23 rfl) ok_X12_bad rfl lm_X12_191 in_X12_bad se_X12_bad sh_117 cf12 (c_X12_bad hE g14) rfl (by decide) (Nat.le_of_ble_eq_true rfl) (Nat.zero_le _) (Nat.zero_le _) rfl ?_
    refine am_if_eq (tgt := 51) (am_dec tmX12_blowing 24 rfl) (by decide) (fun c16 => ?_) (fun c16 => ?_)
    · rw [if_pos c16] at hf
      refine am_aload_n (am_dec tmX12_blowing 27 rfl) rfl rfl ?_
      refine am_getI (j := 17) hE (am_dec tmX12_blowing 28 rfl) sh_117 cf12 (by decide) rfl lf_X12_34 ?_
      refine am_istore (lv' := [(0, .ref 117), (1, .int p1), (2, .int p2), (3, .int p3), (4, .int (x15.2.1 117 17))]) (am_dec tmX12_blowing 29 rfl) (by decide) rfl ?_
      refine am_aload_n (am_dec tmX12_blowing 30 rfl) rfl rfl ?_
      refine am_iload_n (am_dec tmX12_blowing 31 rfl) rfl rfl ?_
      obtain ⟨D17, g18, hf⟩ := am_bd hf
      refine am_putI2 (j := 17) hE (am_dec tmX12_blowing 32 rfl) sh_117 cf12 (by decide) rfl lf_X12_34 rfl rfl rfl g18 ?_
      refine am_aload_n (am_dec tmX12_blowing 33 rfl) rfl rfl ?_
      refine am_iload_n (am_dec tmX12_blowing 34 rfl) rfl rfl ?_
      obtain ⟨D19, g20, hf⟩ := am_bd hf
      refine am_putI2 (j := 18) hE (am_dec tmX12_blowing 35 rfl) sh_117 cf12 (by decide) rfl lf_X12_37 rfl rfl rfl g20 ?_
      refine am_aload_n (am_dec tmX12_blowing 36 rfl) rfl rfl ?_
      refine am_iload_n (am_dec tmX12_blowing 37 rfl) rfl rfl ?_
      obtain ⟨D21, g22, hf⟩ := am_bd hf
      refine am_putI2 (j := 19) hE (am_dec tmX12_blowing 38 rfl) sh_117 cf12 (by decide) rfl lf_X12_40 rfl rfl rfl g22 ?_
      refine am_iload (am_dec tmX12_blowing 39 rfl) rfl ?_
      have hf := Option.some.inj hf
      subst hf
      exact am_iret (am_dec tmX12_blowing 40 rfl) rfl (Nat.zero_le _) (Nat.zero_le _)
    · rw [if_neg c16] at hf
      refine am_iconst (v := (0 : Int32)) (am_dec tmX12_blowing 25 rfl) (by decide) ?_
      have hf := Option.some.inj hf
      subst hf
      exact am_iret (am_dec tmX12_blowing 26 rfl) rfl (Nat.zero_le _) (Nat.zero_le _)
  replace hf := g23
  refine am_if_eq (tgt := 37) (am_dec tmX12_blowing 8 rfl) (by decide) (fun c5 => ?_) (fun c5 => ?_)
  · rw [if_pos c5] at hf
    refine am_iconst (v := (1 : Int32)) (am_dec tmX12_blowing 19 rfl) (by decide) ?_
    refine am_goto (tgt := 42) (am_dec tmX12_blowing 20 rfl) (by decide) ?_
    have hf := Option.some.inj hf
    subst hf
    exact am_pick [0, 1, 2, 3] rfl key6
  · rw [if_neg c5] at hf
    refine am_iload_n (am_dec tmX12_blowing 9 rfl) rfl rfl ?_
    refine am_iconst (v := (1 : Int32)) (am_dec tmX12_blowing 10 rfl) (by decide) ?_
    refine am_bipush (v := (20 : Int32)) (am_dec tmX12_blowing 11 rfl) (by decide) ?_
    obtain ⟨x8, g7, hf⟩ := am_bd hf
    refine am_callS1 (As := [.int p2, .int (1 : Int32), .int (20 : Int32)]) (st := [.ref 117]) (am_dec tmX12_blowing 12 rfl) ok_X12_in rfl lm_X12_144 st_X12_in (c_X12_in hE g7) rfl (by decide) (Nat.le_of_ble_eq_true rfl) (Nat.zero_le _) (Nat.zero_le _) rfl ?_
    refine am_if_eq (tgt := 37) (am_dec tmX12_blowing 13 rfl) (by decide) (fun c9 => ?_) (fun c9 => ?_)
    · rw [if_pos c9] at hf
      refine am_iconst (v := (1 : Int32)) (am_dec tmX12_blowing 19 rfl) (by decide) ?_
      refine am_goto (tgt := 42) (am_dec tmX12_blowing 20 rfl) (by decide) ?_
      have hf := Option.some.inj hf
      subst hf
      exact am_pick [0, 1, 2, 3] rfl key6
    · rw [if_neg c9] at hf
      refine am_iload_n (am_dec tmX12_blowing 14 rfl) rfl rfl ?_
      refine am_iconst (v := (1 : Int32)) (am_dec tmX12_blowing 15 rfl) (by decide) ?_
      refine am_bipush (v := (40 : Int32)) (am_dec tmX12_blowing 16 rfl) (by decide) ?_
      obtain ⟨x11, g10, hf⟩ := am_bd hf
      refine am_callS1 (As := [.int p3, .int (1 : Int32), .int (40 : Int32)]) (st := [.ref 117]) (am_dec tmX12_blowing 17 rfl) ok_X12_in rfl lm_X12_144 st_X12_in (c_X12_in hE g10) rfl (by decide) (Nat.le_of_ble_eq_true rfl) (Nat.zero_le _) (Nat.zero_le _) rfl ?_
      refine am_if_ne (tgt := 41) (am_dec tmX12_blowing 18 rfl) (by decide) (fun c12 => ?_) (fun c12 => ?_)
      · rw [if_neg c12] at hf
        refine am_iconst (v := (0 : Int32)) (am_dec tmX12_blowing 21 rfl) (by decide) ?_
        have hf := Option.some.inj hf
        subst hf
        exact am_pick [0, 1, 2, 3] rfl key6
      · rw [if_pos c12] at hf
        refine am_iconst (v := (1 : Int32)) (am_dec tmX12_blowing 19 rfl) (by decide) ?_
        refine am_goto (tgt := 42) (am_dec tmX12_blowing 20 rfl) (by decide) ?_
        have hf := Option.some.inj hf
        subst hf
        exact am_pick [0, 1, 2, 3] rfl key6
def f_X12_blow (p1 : Int32) (p2 : Int32) (D : am_D) : Option ((Int32 × am_D)) :=
    (some (am_wI D 117 0 (0 : Int32))).bind fun D1 =>
    (f_X12_isSound p1 D1).bind fun x4 =>
    (if x4 = 0 then
    some ((1 : Int32))
    else
    some ((0 : Int32))).bind fun w7 =>
    (f_X12_bad w7 (1 : Int32) D1).bind fun x9 =>
    if x9.1 = 0 then
    (am_gA 5 p1).bind fun j11 =>
    (am_gI x9.2 139 5 p1).bind fun x13 =>
    (f_X12_findBlows (134 + j11) x13 x9.2).bind fun x16 =>
    (f_X12_in p2 (0 : Int32) (x16.1 - (1 : Int32))).bind fun x18 =>
    if x18 = 0 then
    some ((-1 : Int32), x16.2)
    else
    (am_gI x16.2 2629 1200 p2).bind fun x20 =>
    some (x20, x16.2)
    else
    some ((0 : Int32), x9.2)
set_option maxRecDepth 100000 in
set_option maxHeartbeats 4000000 in
theorem c_X12_blow {E : am_E} (hE : am_EH E) {p1 : Int32} {p2 : Int32} {D : am_D} {r : (Int32 × am_D)}  (hf : f_X12_blow p1 p2 D = some r) : am_C E mX12_blow 3 0 0 [.ref 117, .int p1, .int p2] am_G0 D (.inl (some (.int r.1))) am_G0 r.2 := by
  refine am_C_of (by decide +kernel) (Nat.le_of_ble_eq_true rfl) ?_
  change am_S E mX12_blow 3 0 0 (.inl (some (.int r.1))) am_G0 r.2 0 0 0 [(0, .ref 117), (1, .int p1), (2, .int p2)] [] am_G0 D
  unfold f_X12_blow at hf
  refine am_aload_n (am_dec tmX12_blow 0 rfl) rfl rfl ?_
  refine am_iconst (v := (0 : Int32)) (am_dec tmX12_blow 1 rfl) (by decide) ?_
  obtain ⟨D1, g2, hf⟩ := am_bd hf
  refine am_putI2 (j := 0) hE (am_dec tmX12_blow 2 rfl) sh_117 cf12 (by decide) rfl lf_X12_110 rfl rfl rfl g2 ?_
  refine am_aload_n (am_dec tmX12_blow 3 rfl) rfl rfl ?_
  refine am_aload_n (am_dec tmX12_blow 4 rfl) rfl rfl ?_
  refine am_iload_n (am_dec tmX12_blow 5 rfl) rfl rfl ?_
  obtain ⟨x4, g3, hf⟩ := am_bd hf
  refine am_callV1 (As := [.int p1]) (st := [.ref 117]) hE (am_dec tmX12_blow 6 rfl) ok_X12_isSound rfl lm_X12_217 in_X12_isSound se_X12_isSound sh_117 cf12 (c_X12_isSound hE g3) rfl (by decide) (Nat.le_of_ble_eq_true rfl) (Nat.zero_le _) (Nat.zero_le _) rfl ?_
  obtain ⟨w7, g22, hf⟩ := am_bd hf
  have key6 : am_S E mX12_blow 3 0 0 (.inl (some (.int r.1))) am_G0 r.2 0 0 19 [(0, .ref 117), (1, .int p1), (2, .int p2)] [.int w7, .ref 117] am_G0 D1 := by
    refine am_iconst (v := (1 : Int32)) (am_dec tmX12_blow 11 rfl) (by decide) ?_
    obtain ⟨x9, g8, hf⟩ := am_bd hf
    refine am_callV1 (As := [.int w7, .int (1 : Int32)]) (st := []) hE (am_dec tmX12_blow 12 rfl) ok_X12_bad rfl lm_X12_191 in_X12_bad se_X12_bad sh_117 cf12 (c_X12_bad hE g8) rfl (by decide) (Nat.le_of_ble_eq_true rfl) (Nat.zero_le _) (Nat.zero_le _) rfl ?_
    refine am_if_eq (tgt := 28) (am_dec tmX12_blow 13 rfl) (by decide) (fun c10 => ?_) (fun c10 => ?_)
    · rw [if_pos c10] at hf
      refine am_aload_n (am_dec tmX12_blow 16 rfl) rfl rfl ?_
      refine am_aload_n (am_dec tmX12_blow 17 rfl) rfl rfl ?_
      refine am_getR (j := 24) hE (am_dec tmX12_blow 18 rfl) sh_117 cf12 (by decide) rfl lf_X12_43 rf_117_24 ?_
      refine am_iload_n (am_dec tmX12_blow 19 rfl) rfl rfl ?_
      obtain ⟨j11, g12, hf⟩ := am_bd hf
      have hj_j11 := (am_gA_lt g12).1
      refine am_aald2 (t := 6) hE (am_dec tmX12_blow 20 rfl) sh_133 (by decide) rfl rfl g12 (rr_133 hj_j11) ?_
      refine am_aload_n (am_dec tmX12_blow 21 rfl) rfl rfl ?_
      refine am_getR (j := 25) hE (am_dec tmX12_blow 22 rfl) sh_117 cf12 (by decide) rfl lf_X12_46 rf_117_25 ?_
      refine am_iload_n (am_dec tmX12_blow 23 rfl) rfl rfl ?_
      obtain ⟨x13, g14, hf⟩ := am_bd hf
      refine am_iald2 hE (am_dec tmX12_blow 24 rfl) sh_139 g14 ?_
      obtain ⟨x16, g15, hf⟩ := am_bd hf
      refine am_callV1 (As := [.ref (134 + j11), .int x13]) (st := []) hE (am_dec tmX12_blow 25 rfl) ok_X12_findBlows rfl lm_X12_309 in_X12_findBlows se_X12_findBlows sh_117 cf12 (c_X12_findBlows hE (am_shl (sa_133_0 hj_j11)) g15) rfl (by decide) (Nat.le_of_ble_eq_true rfl) (Nat.zero_le _) (Nat.zero_le _) rfl ?_
      refine am_istore_n (lv' := [(0, .ref 117), (1, .int p1), (2, .int p2), (3, .int x16.1)]) (am_dec tmX12_blow 26 rfl) rfl (by decide) rfl ?_
      refine am_iload_n (am_dec tmX12_blow 27 rfl) rfl rfl ?_
      refine am_iconst (v := (0 : Int32)) (am_dec tmX12_blow 28 rfl) (by decide) ?_
      refine am_iload_n (am_dec tmX12_blow 29 rfl) rfl rfl ?_
      refine am_iconst (v := (1 : Int32)) (am_dec tmX12_blow 30 rfl) (by decide) ?_
      refine am_isub (am_dec tmX12_blow 31 rfl) ?_
      obtain ⟨x18, g17, hf⟩ := am_bd hf
      refine am_callS1 (As := [.int p2, .int (0 : Int32), .int (x16.1 - (1 : Int32))]) (st := []) (am_dec tmX12_blow 32 rfl) ok_X12_in rfl lm_X12_144 st_X12_in (c_X12_in hE g17) rfl (by decide) (Nat.le_of_ble_eq_true rfl) (Nat.zero_le _) (Nat.zero_le _) rfl ?_
      refine am_if_eq (tgt := 65) (am_dec tmX12_blow 33 rfl) (by decide) (fun c19 => ?_) (fun c19 => ?_)
      · rw [if_pos c19] at hf
        refine am_iconst (v := (-1 : Int32)) (am_dec tmX12_blow 39 rfl) (by decide) ?_
        have hf := Option.some.inj hf
        subst hf
        exact am_iret (am_dec tmX12_blow 40 rfl) rfl (Nat.zero_le _) (Nat.zero_le _)
      · rw [if_neg c19] at hf
        refine am_aload_n (am_dec tmX12_blow 34 rfl) rfl rfl ?_
        refine am_getR (j := 51) hE (am_dec tmX12_blow 35 rfl) sh_117 cf12 (by decide) rfl lf_X12_94 rf_117_51 ?_
        refine am_iload_n (am_dec tmX12_blow 36 rfl) rfl rfl ?_
        obtain ⟨x20, g21, hf⟩ := am_bd hf
        refine am_iald2 hE (am_dec tmX12_blow 37 rfl) sh_2629 g21 ?_
        refine am_goto (tgt := 66) (am_dec tmX12_blow 38 rfl) (by decide) ?_
        have hf := Option.some.inj hf
        subst hf
        exact am_iret (am_dec tmX12_blow 40 rfl) rfl (Nat.zero_le _) (Nat.zero_le _)
    · rw [if_neg c10] at hf
      refine am_iconst (v := (0 : Int32)) (am_dec tmX12_blow 14 rfl) (by decide) ?_
      have hf := Option.some.inj hf
      subst hf
      exact am_iret (am_dec tmX12_blow 15 rfl) rfl (Nat.zero_le _) (Nat.zero_le _)
  replace hf := g22
  refine am_if_ne (tgt := 18) (am_dec tmX12_blow 7 rfl) (by decide) (fun c5 => ?_) (fun c5 => ?_)
  · rw [if_neg c5] at hf
    refine am_iconst (v := (0 : Int32)) (am_dec tmX12_blow 10 rfl) (by decide) ?_
    have hf := Option.some.inj hf
    subst hf
    exact am_pick [0, 1, 2] rfl key6
  · rw [if_pos c5] at hf
    refine am_iconst (v := (1 : Int32)) (am_dec tmX12_blow 8 rfl) (by decide) ?_
    refine am_goto (tgt := 19) (am_dec tmX12_blow 9 rfl) (by decide) ?_
    have hf := Option.some.inj hf
    subst hf
    exact am_pick [0, 1, 2] rfl key6
def f_X12_blows (D : am_D) : Option ((Int32 × am_D)) :=
    (some (am_wI D 117 0 (0 : Int32))).bind fun D1 =>
    (f_X12_findBlows 222 (D1.1 117 38) D1).bind fun x4 =>
    some (x4.1, x4.2)
set_option maxRecDepth 100000 in
set_option maxHeartbeats 4000000 in
theorem c_X12_blows {E : am_E} (hE : am_EH E) {D : am_D} {r : (Int32 × am_D)}  (hf : f_X12_blows D = some r) : am_C E mX12_blows 3 0 0 [.ref 117] am_G0 D (.inl (some (.int r.1))) am_G0 r.2 := by
  refine am_C_of (by decide +kernel) (Nat.le_of_ble_eq_true rfl) ?_
  change am_S E mX12_blows 3 0 0 (.inl (some (.int r.1))) am_G0 r.2 0 0 0 [(0, .ref 117)] [] am_G0 D
  unfold f_X12_blows at hf
  refine am_aload_n (am_dec tmX12_blows 0 rfl) rfl rfl ?_
  refine am_iconst (v := (0 : Int32)) (am_dec tmX12_blows 1 rfl) (by decide) ?_
  obtain ⟨D1, g2, hf⟩ := am_bd hf
  refine am_putI2 (j := 0) hE (am_dec tmX12_blows 2 rfl) sh_117 cf12 (by decide) rfl lf_X12_110 rfl rfl rfl g2 ?_
  refine am_aload_n (am_dec tmX12_blows 3 rfl) rfl rfl ?_
  refine am_aload_n (am_dec tmX12_blows 4 rfl) rfl rfl ?_
  refine am_getR (j := 34) hE (am_dec tmX12_blows 5 rfl) sh_117 cf12 (by decide) rfl lf_X12_73 rf_117_34 ?_
  refine am_aload_n (am_dec tmX12_blows 6 rfl) rfl rfl ?_
  refine am_getI (j := 38) hE (am_dec tmX12_blows 7 rfl) sh_117 cf12 (by decide) rfl lf_X12_262 ?_
  obtain ⟨x4, g3, hf⟩ := am_bd hf
  refine am_callV1 (As := [.ref 222, .int (D1.1 117 38)]) (st := []) hE (am_dec tmX12_blows 8 rfl) ok_X12_findBlows rfl lm_X12_309 in_X12_findBlows se_X12_findBlows sh_117 cf12 (c_X12_findBlows hE (am_shl sh_222) g3) rfl (by decide) (Nat.le_of_ble_eq_true rfl) (Nat.zero_le _) (Nat.zero_le _) rfl ?_
  have hf := Option.some.inj hf
  subst hf
  exact am_iret (am_dec tmX12_blows 9 rfl) rfl (Nat.zero_le _) (Nat.zero_le _)
def f_X12_fromAt (p1 : Int32) (D : am_D) : Option (Int32) :=
    if (D.1 117 36) ≤ p1 then
    some (0 : Int32)
    else
    (am_gI D 221 1200 p1).bind fun x2 =>
    some x2
set_option maxRecDepth 100000 in
set_option maxHeartbeats 4000000 in
theorem c_X12_fromAt {E : am_E} (hE : am_EH E) {p1 : Int32} {D : am_D} {r : Int32}  (hf : f_X12_fromAt p1 D = some r) : am_C E mX12_fromAt 1 0 0 [.ref 117, .int p1] am_G0 D (.inl (some (.int r))) am_G0 D := by
  refine am_C_of (by decide +kernel) (Nat.le_of_ble_eq_true rfl) ?_
  change am_S E mX12_fromAt 1 0 0 (.inl (some (.int r))) am_G0 D 0 0 0 [(0, .ref 117), (1, .int p1)] [] am_G0 D
  unfold f_X12_fromAt at hf
  refine am_iload_n (am_dec tmX12_fromAt 0 rfl) rfl rfl ?_
  refine am_aload_n (am_dec tmX12_fromAt 1 rfl) rfl rfl ?_
  refine am_getI (j := 36) hE (am_dec tmX12_fromAt 2 rfl) sh_117 cf12 (by decide) rfl lf_X12_253 ?_
  refine am_icmp_ge (tgt := 17) (am_dec tmX12_fromAt 3 rfl) (by decide) (fun c1 => ?_) (fun c1 => ?_)
  · rw [if_pos c1] at hf
    refine am_iconst (v := (0 : Int32)) (am_dec tmX12_fromAt 9 rfl) (by decide) ?_
    have hf := Option.some.inj hf
    subst hf
    exact am_iret (am_dec tmX12_fromAt 10 rfl) rfl (Nat.zero_le _) (Nat.zero_le _)
  · rw [if_neg c1] at hf
    refine am_aload_n (am_dec tmX12_fromAt 4 rfl) rfl rfl ?_
    refine am_getR (j := 33) hE (am_dec tmX12_fromAt 5 rfl) sh_117 cf12 (by decide) rfl lf_X12_70 rf_117_33 ?_
    refine am_iload_n (am_dec tmX12_fromAt 6 rfl) rfl rfl ?_
    obtain ⟨x2, g3, hf⟩ := am_bd hf
    refine am_iald2 hE (am_dec tmX12_fromAt 7 rfl) sh_221 g3 ?_
    refine am_goto (tgt := 18) (am_dec tmX12_fromAt 8 rfl) (by decide) ?_
    have hf := Option.some.inj hf
    subst hf
    exact am_iret (am_dec tmX12_fromAt 10 rfl) rfl (Nat.zero_le _) (Nat.zero_le _)
def f_X12_smear_L65 (q1 : Int32) (q2 : Int32) (q3 : Int32) (q4 : Int32) (q5 : Int32) (q6 : Int32) (D : am_D) : Nat → Int32 → Int32 → Option (Int32)
  | 0, _, _ => none
  | n + 1, v7, v8 =>
    if ((2 : Int32) * (D.1 117 19)) ≤ v8 then
    some (v7)
    else
    (if (D.1 117 38) ≤ (q5 + v8) then
    some ((0 : Int32))
    else
    (am_gI D 222 1200 (q5 + v8)).bind fun x17 =>
    (f_X12_amount x17).bind fun x20 =>
    if ((2 : Int32) * x20) < q6 then
    some ((0 : Int32))
    else
    some ((1 : Int32))).bind fun w22 =>
    (if (D.1 117 36) ≤ (q4 + v8) then
    some ((0 : Int32))
    else
    (am_gI D 221 1200 (q4 + v8)).bind fun x25 =>
    (f_X12_amount x25).bind fun x28 =>
    if ((2 : Int32) * x28) < q6 then
    some ((0 : Int32))
    else
    some ((1 : Int32))).bind fun w30 =>
    f_X12_smear_L65 q1 q2 q3 q4 q5 q6 D n ((v7 + w22) - w30) (v8 + (1 : Int32))
def f_X12_smear_L17 (q1 : Int32) (D : am_D) : Nat → Int32 → Int32 → Option (Int32)
  | 0, _, _ => none
  | n + 1, v2, v3 =>
    if q1 ≤ v3 then
    some (v2)
    else
    (am_gI D 2629 1200 v3).bind fun x4 =>
    (f_X12_whereNow x4 D).bind fun x7 =>
    (am_gI D 221 1200 x4).bind fun x8 =>
    (f_X12_amount x8).bind fun x11 =>
    (if x7 = (-1 : Int32) then
    some (v2)
    else
    (f_X12_smear_L65 q1 v2 v3 x4 x7 x11 D am_fu (0 : Int32) (0 : Int32)).bind fun e33 =>
    (f_X12_amount e33).bind fun x35 =>
    some ((v2 + x35))).bind fun w37 =>
    f_X12_smear_L17 q1 D n w37 (v3 + (1 : Int32))
def f_X12_smear (D : am_D) : Option ((Int32 × am_D)) :=
    (f_X12_findBlows 221 (D.1 117 36) D).bind fun x2 =>
    (f_X12_smear_L17 x2.1 x2.2 am_fu (0 : Int32) (0 : Int32)).bind fun e39 =>
    some (e39, x2.2)
set_option maxRecDepth 100000 in
set_option maxHeartbeats 4000000 in
theorem l_X12_smear_L65 {E : am_E} (hE : am_EH E) {d mc ms : Nat} {o : am_O} {G2 : am_G} {D2 : am_D} (hdp : 4 ≤ d) {q1 : Int32} {q2 : Int32} {q3 : Int32} {q4 : Int32} {q5 : Int32} {q6 : Int32} {D : am_D}  : ∀ (n : Nat) (v7 : Int32) (v8 : Int32) (ex0 : Int32), f_X12_smear_L65 q1 q2 q3 q4 q5 q6 D n v7 v8 = some ex0 → (∀ ex : Int32, ex0 = ex → am_S E mX12_smear d mc ms o G2 D2 0 0 166 [(0, .ref 117), (1, .int q1), (2, .int q2), (3, .int q3), (7, .int ex)] [] am_G0 D) → am_S E mX12_smear d mc ms o G2 D2 0 0 65 [(0, .ref 117), (1, .int q1), (2, .int q2), (3, .int q3), (4, .int q4), (5, .int q5), (6, .int q6), (7, .int v7), (8, .int v8)] [] am_G0 D
  | 0, _, _, _, hf, _ => by
    unfold f_X12_smear_L65 at hf
    cases hf
  | n + 1, v7, v8, ex0, hf, hk0 => by
    unfold f_X12_smear_L65 at hf
    refine am_iload (am_dec tmX12_smear_0 37 rfl) rfl ?_
    refine am_iconst (v := (2 : Int32)) (am_dec tmX12_smear_0 38 rfl) (by decide) ?_
    refine am_aload_n (am_dec tmX12_smear_0 39 rfl) rfl rfl ?_
    refine am_getI (j := 19) hE (am_dec tmX12_smear_0 40 rfl) sh_117 cf12 (by decide) rfl lf_X12_40 ?_
    refine am_imul (am_dec tmX12_smear_0 41 rfl) ?_
    refine am_icmp_ge (tgt := 166) (am_dec tmX12_smear_0 42 rfl) (by decide) (fun c14 => ?_) (fun c14 => ?_)
    · rw [if_pos c14] at hf
      have hf := Option.some.inj hf
      subst hf
      exact am_pick [0, 1, 2, 3, 7] rfl (hk0 _ rfl)
    · rw [if_neg c14] at hf
      refine am_iload (am_dec tmX12_smear_0 43 rfl) rfl ?_
      refine am_iload (am_dec tmX12_smear_0 44 rfl) rfl ?_
      refine am_iload (am_dec tmX12_smear_0 45 rfl) rfl ?_
      refine am_iadd (am_dec tmX12_smear_0 46 rfl) ?_
      refine am_aload_n (am_dec tmX12_smear_0 47 rfl) rfl rfl ?_
      refine am_getI (j := 38) hE (am_dec tmX12_smear_0 48 rfl) sh_117 cf12 (by decide) rfl lf_X12_262 ?_
      obtain ⟨w22, g32, hf⟩ := am_bd hf
      have key16 : am_S E mX12_smear d mc ms o G2 D2 0 0 115 [(0, .ref 117), (1, .int q1), (2, .int q2), (3, .int q3), (4, .int q4), (5, .int q5), (6, .int q6), (8, .int v8)] [.int w22, .int v7] am_G0 D := by
        refine am_iadd (am_dec tmX12_smear_1 4 rfl) ?_
        refine am_istore (lv' := [(0, .ref 117), (1, .int q1), (2, .int q2), (3, .int q3), (4, .int q4), (5, .int q5), (6, .int q6), (7, .int (v7 + w22)), (8, .int v8)]) (am_dec tmX12_smear_1 5 rfl) (by decide) rfl ?_
        refine am_iload (am_dec tmX12_smear_1 6 rfl) rfl ?_
        refine am_iload (am_dec tmX12_smear_1 7 rfl) rfl ?_
        refine am_iload (am_dec tmX12_smear_1 8 rfl) rfl ?_
        refine am_iadd (am_dec tmX12_smear_1 9 rfl) ?_
        refine am_aload_n (am_dec tmX12_smear_1 10 rfl) rfl rfl ?_
        refine am_getI (j := 36) hE (am_dec tmX12_smear_1 11 rfl) sh_117 cf12 (by decide) rfl lf_X12_253 ?_
        obtain ⟨w30, g31, hf⟩ := am_bd hf
        have key24 : am_S E mX12_smear d mc ms o G2 D2 0 0 157 [(0, .ref 117), (1, .int q1), (2, .int q2), (3, .int q3), (4, .int q4), (5, .int q5), (6, .int q6), (8, .int v8)] [.int w30, .int (v7 + w22)] am_G0 D := by
          refine am_isub (am_dec tmX12_smear_1 27 rfl) ?_
          refine am_istore (lv' := [(0, .ref 117), (1, .int q1), (2, .int q2), (3, .int q3), (4, .int q4), (5, .int q5), (6, .int q6), (7, .int ((v7 + w22) - w30)), (8, .int v8)]) (am_dec tmX12_smear_1 28 rfl) (by decide) rfl ?_
          refine am_iinc (v := (1 : Int32)) (lv' := [(0, .ref 117), (1, .int q1), (2, .int q2), (3, .int q3), (4, .int q4), (5, .int q5), (6, .int q6), (7, .int ((v7 + w22) - w30)), (8, .int (v8 + (1 : Int32)))]) (am_dec tmX12_smear_1 29 rfl) rfl (by decide) (by decide) rfl ?_
          refine am_goto (tgt := 65) (am_dec tmX12_smear_1 30 rfl) (by decide) ?_
          exact am_pick [0, 1, 2, 3, 4, 5, 6, 7, 8] rfl (l_X12_smear_L65 hE hdp n ((v7 + w22) - w30) (v8 + (1 : Int32)) ex0 hf hk0)
        replace hf := g31
        refine am_icmp_ge (tgt := 156) (am_dec tmX12_smear_1 12 rfl) (by decide) (fun c23 => ?_) (fun c23 => ?_)
        · rw [if_pos c23] at hf
          refine am_iconst (v := (0 : Int32)) (am_dec tmX12_smear_1 26 rfl) (by decide) ?_
          have hf := Option.some.inj hf
          subst hf
          exact am_pick [0, 1, 2, 3, 4, 5, 6, 8] rfl key24
        · rw [if_neg c23] at hf
          refine am_iconst (v := (2 : Int32)) (am_dec tmX12_smear_1 13 rfl) (by decide) ?_
          refine am_aload_n (am_dec tmX12_smear_1 14 rfl) rfl rfl ?_
          refine am_getR (j := 33) hE (am_dec tmX12_smear_1 15 rfl) sh_117 cf12 (by decide) rfl lf_X12_70 rf_117_33 ?_
          refine am_iload (am_dec tmX12_smear_1 16 rfl) rfl ?_
          refine am_iload (am_dec tmX12_smear_1 17 rfl) rfl ?_
          refine am_iadd (am_dec tmX12_smear_1 18 rfl) ?_
          obtain ⟨x25, g26, hf⟩ := am_bd hf
          refine am_iald2 hE (am_dec tmX12_smear_1 19 rfl) sh_221 g26 ?_
          obtain ⟨x28, g27, hf⟩ := am_bd hf
          refine am_callS1 (As := [.int x25]) (st := [.int (2 : Int32), .int (v7 + w22)]) (am_dec tmX12_smear_1 20 rfl) ok_X12_amount rfl lm_X12_281 st_X12_amount (c_X12_amount hE g27) rfl (Nat.lt_of_lt_of_le (by decide) hdp) (Nat.le_of_ble_eq_true rfl) (Nat.zero_le _) (Nat.zero_le _) rfl ?_
          refine am_imul (am_dec tmX12_smear_1 21 rfl) ?_
          refine am_iload (am_dec tmX12_smear_1 22 rfl) rfl ?_
          refine am_icmp_lt (tgt := 156) (am_dec tmX12_smear_1 23 rfl) (by decide) (fun c29 => ?_) (fun c29 => ?_)
          · rw [if_pos c29] at hf
            refine am_iconst (v := (0 : Int32)) (am_dec tmX12_smear_1 26 rfl) (by decide) ?_
            have hf := Option.some.inj hf
            subst hf
            exact am_pick [0, 1, 2, 3, 4, 5, 6, 8] rfl key24
          · rw [if_neg c29] at hf
            refine am_iconst (v := (1 : Int32)) (am_dec tmX12_smear_1 24 rfl) (by decide) ?_
            refine am_goto (tgt := 157) (am_dec tmX12_smear_1 25 rfl) (by decide) ?_
            have hf := Option.some.inj hf
            subst hf
            exact am_pick [0, 1, 2, 3, 4, 5, 6, 8] rfl key24
      replace hf := g32
      refine am_icmp_ge (tgt := 114) (am_dec tmX12_smear_0 49 rfl) (by decide) (fun c15 => ?_) (fun c15 => ?_)
      · rw [if_pos c15] at hf
        refine am_iconst (v := (0 : Int32)) (am_dec tmX12_smear_1 3 rfl) (by decide) ?_
        have hf := Option.some.inj hf
        subst hf
        exact am_pick [0, 1, 2, 3, 4, 5, 6, 8] rfl key16
      · rw [if_neg c15] at hf
        refine am_iconst (v := (2 : Int32)) (am_dec tmX12_smear_0 50 rfl) (by decide) ?_
        refine am_aload_n (am_dec tmX12_smear_0 51 rfl) rfl rfl ?_
        refine am_getR (j := 34) hE (am_dec tmX12_smear_0 52 rfl) sh_117 cf12 (by decide) rfl lf_X12_73 rf_117_34 ?_
        refine am_iload (am_dec tmX12_smear_0 53 rfl) rfl ?_
        refine am_iload (am_dec tmX12_smear_0 54 rfl) rfl ?_
        refine am_iadd (am_dec tmX12_smear_0 55 rfl) ?_
        obtain ⟨x17, g18, hf⟩ := am_bd hf
        refine am_iald2 hE (am_dec tmX12_smear_0 56 rfl) sh_222 g18 ?_
        obtain ⟨x20, g19, hf⟩ := am_bd hf
        refine am_callS1 (As := [.int x17]) (st := [.int (2 : Int32), .int v7]) (am_dec tmX12_smear_0 57 rfl) ok_X12_amount rfl lm_X12_281 st_X12_amount (c_X12_amount hE g19) rfl (Nat.lt_of_lt_of_le (by decide) hdp) (Nat.le_of_ble_eq_true rfl) (Nat.zero_le _) (Nat.zero_le _) rfl ?_
        refine am_imul (am_dec tmX12_smear_0 58 rfl) ?_
        refine am_iload (am_dec tmX12_smear_0 59 rfl) rfl ?_
        refine am_icmp_lt (tgt := 114) (am_dec tmX12_smear_1 0 rfl) (by decide) (fun c21 => ?_) (fun c21 => ?_)
        · rw [if_pos c21] at hf
          refine am_iconst (v := (0 : Int32)) (am_dec tmX12_smear_1 3 rfl) (by decide) ?_
          have hf := Option.some.inj hf
          subst hf
          exact am_pick [0, 1, 2, 3, 4, 5, 6, 8] rfl key16
        · rw [if_neg c21] at hf
          refine am_iconst (v := (1 : Int32)) (am_dec tmX12_smear_1 1 rfl) (by decide) ?_
          refine am_goto (tgt := 115) (am_dec tmX12_smear_1 2 rfl) (by decide) ?_
          have hf := Option.some.inj hf
          subst hf
          exact am_pick [0, 1, 2, 3, 4, 5, 6, 8] rfl key16
set_option maxRecDepth 100000 in
set_option maxHeartbeats 4000000 in
theorem l_X12_smear_L17 {E : am_E} (hE : am_EH E) {d mc ms : Nat} {o : am_O} {G2 : am_G} {D2 : am_D} (hdp : 4 ≤ d) {q1 : Int32} {D : am_D}  : ∀ (n : Nat) (v2 : Int32) (v3 : Int32) (ex0 : Int32), f_X12_smear_L17 q1 D n v2 v3 = some ex0 → (∀ ex : Int32, ex0 = ex → am_S E mX12_smear d mc ms o G2 D2 0 0 180 [(2, .int ex)] [] am_G0 D) → am_S E mX12_smear d mc ms o G2 D2 0 0 17 [(0, .ref 117), (1, .int q1), (2, .int v2), (3, .int v3)] [] am_G0 D
  | 0, _, _, _, hf, _ => by
    unfold f_X12_smear_L17 at hf
    cases hf
  | n + 1, v2, v3, ex0, hf, hk0 => by
    unfold f_X12_smear_L17 at hf
    refine am_iload_n (am_dec tmX12_smear_0 11 rfl) rfl rfl ?_
    refine am_iload_n (am_dec tmX12_smear_0 12 rfl) rfl rfl ?_
    refine am_icmp_ge (tgt := 180) (am_dec tmX12_smear_0 13 rfl) (by decide) (fun c3 => ?_) (fun c3 => ?_)
    · rw [if_pos c3] at hf
      have hf := Option.some.inj hf
      subst hf
      exact am_pick [2] rfl (hk0 _ rfl)
    · rw [if_neg c3] at hf
      refine am_aload_n (am_dec tmX12_smear_0 14 rfl) rfl rfl ?_
      refine am_getR (j := 51) hE (am_dec tmX12_smear_0 15 rfl) sh_117 cf12 (by decide) rfl lf_X12_94 rf_117_51 ?_
      refine am_iload_n (am_dec tmX12_smear_0 16 rfl) rfl rfl ?_
      obtain ⟨x4, g5, hf⟩ := am_bd hf
      refine am_iald2 hE (am_dec tmX12_smear_0 17 rfl) sh_2629 g5 ?_
      refine am_istore (lv' := [(0, .ref 117), (1, .int q1), (2, .int v2), (3, .int v3), (4, .int x4)]) (am_dec tmX12_smear_0 18 rfl) (by decide) rfl ?_
      refine am_aload_n (am_dec tmX12_smear_0 19 rfl) rfl rfl ?_
      refine am_iload (am_dec tmX12_smear_0 20 rfl) rfl ?_
      obtain ⟨x7, g6, hf⟩ := am_bd hf
      refine am_callV1 (As := [.int x4]) (st := []) hE (am_dec tmX12_smear_0 21 rfl) ok_X12_whereNow rfl lm_X12_247 in_X12_whereNow se_X12_whereNow sh_117 cf12 (c_X12_whereNow hE g6) rfl (Nat.lt_of_lt_of_le (by decide) hdp) (Nat.le_of_ble_eq_true rfl) (Nat.zero_le _) (Nat.zero_le _) rfl ?_
      refine am_istore (lv' := [(0, .ref 117), (1, .int q1), (2, .int v2), (3, .int v3), (4, .int x4), (5, .int x7)]) (am_dec tmX12_smear_0 22 rfl) (by decide) rfl ?_
      refine am_aload_n (am_dec tmX12_smear_0 23 rfl) rfl rfl ?_
      refine am_getR (j := 33) hE (am_dec tmX12_smear_0 24 rfl) sh_117 cf12 (by decide) rfl lf_X12_70 rf_117_33 ?_
      refine am_iload (am_dec tmX12_smear_0 25 rfl) rfl ?_
      obtain ⟨x8, g9, hf⟩ := am_bd hf
      refine am_iald2 hE (am_dec tmX12_smear_0 26 rfl) sh_221 g9 ?_
      obtain ⟨x11, g10, hf⟩ := am_bd hf
      refine am_callS1 (As := [.int x8]) (st := []) (am_dec tmX12_smear_0 27 rfl) ok_X12_amount rfl lm_X12_281 st_X12_amount (c_X12_amount hE g10) rfl (Nat.lt_of_lt_of_le (by decide) hdp) (Nat.le_of_ble_eq_true rfl) (Nat.zero_le _) (Nat.zero_le _) rfl ?_
      refine am_istore (lv' := [(0, .ref 117), (1, .int q1), (2, .int v2), (3, .int v3), (4, .int x4), (5, .int x7), (6, .int x11)]) (am_dec tmX12_smear_0 28 rfl) (by decide) rfl ?_
      refine am_iconst (v := (0 : Int32)) (am_dec tmX12_smear_0 29 rfl) (by decide) ?_
      refine am_istore (lv' := [(0, .ref 117), (1, .int q1), (2, .int v2), (3, .int v3), (4, .int x4), (5, .int x7), (6, .int x11), (7, .int (0 : Int32))]) (am_dec tmX12_smear_0 30 rfl) (by decide) rfl ?_
      refine am_iload (am_dec tmX12_smear_0 31 rfl) rfl ?_
      refine am_iconst (v := (-1 : Int32)) (am_dec tmX12_smear_0 32 rfl) (by decide) ?_
      obtain ⟨w37, g38, hf⟩ := am_bd hf
      have key13 : am_S E mX12_smear d mc ms o G2 D2 0 0 174 [(0, .ref 117), (1, .int q1), (2, .int w37), (3, .int v3)] [] am_G0 D := by
        refine am_iinc (v := (1 : Int32)) (lv' := [(0, .ref 117), (1, .int q1), (2, .int w37), (3, .int (v3 + (1 : Int32)))]) (am_dec tmX12_smear_1 36 rfl) rfl (by decide) (by decide) rfl ?_
        refine am_goto (tgt := 17) (am_dec tmX12_smear_1 37 rfl) (by decide) ?_
        exact am_pick [0, 1, 2, 3] rfl (l_X12_smear_L17 hE hdp n w37 (v3 + (1 : Int32)) ex0 hf hk0)
      replace hf := g38
      refine am_icmp_ne (tgt := 62) (am_dec tmX12_smear_0 33 rfl) (by decide) (fun c12 => ?_) (fun c12 => ?_)
      · rw [if_neg c12] at hf
        refine am_iconst (v := (0 : Int32)) (am_dec tmX12_smear_0 35 rfl) (by decide) ?_
        refine am_istore (lv' := [(0, .ref 117), (1, .int q1), (2, .int v2), (3, .int v3), (4, .int x4), (5, .int x7), (6, .int x11), (7, .int (0 : Int32)), (8, .int (0 : Int32))]) (am_dec tmX12_smear_0 36 rfl) (by decide) rfl ?_
        obtain ⟨e33, g36, hf⟩ := am_bd hf
        refine am_pick [0, 1, 2, 3, 4, 5, 6, 7, 8] rfl (l_X12_smear_L65 hE hdp am_fu _ _ _ g36 (fun ex he => ?_))
        subst he
        refine am_iload_n (am_dec tmX12_smear_1 31 rfl) rfl rfl ?_
        refine am_iload (am_dec tmX12_smear_1 32 rfl) rfl ?_
        obtain ⟨x35, g34, hf⟩ := am_bd hf
        refine am_callS1 (As := [.int e33]) (st := [.int v2]) (am_dec tmX12_smear_1 33 rfl) ok_X12_amount rfl lm_X12_281 st_X12_amount (c_X12_amount hE g34) rfl (Nat.lt_of_lt_of_le (by decide) hdp) (Nat.le_of_ble_eq_true rfl) (Nat.zero_le _) (Nat.zero_le _) rfl ?_
        refine am_iadd (am_dec tmX12_smear_1 34 rfl) ?_
        refine am_istore_n (lv' := [(0, .ref 117), (1, .int q1), (2, .int (v2 + x35)), (3, .int v3), (7, .int e33)]) (am_dec tmX12_smear_1 35 rfl) rfl (by decide) rfl ?_
        have hf := Option.some.inj hf
        subst hf
        exact am_pick [0, 1, 2, 3] rfl key13
      · rw [if_pos c12] at hf
        refine am_goto (tgt := 174) (am_dec tmX12_smear_0 34 rfl) (by decide) ?_
        have hf := Option.some.inj hf
        subst hf
        exact am_pick [0, 1, 2, 3] rfl key13
set_option maxRecDepth 100000 in
set_option maxHeartbeats 4000000 in
theorem c_X12_smear {E : am_E} (hE : am_EH E) {D : am_D} {r : (Int32 × am_D)}  (hf : f_X12_smear D = some r) : am_C E mX12_smear 4 0 0 [.ref 117] am_G0 D (.inl (some (.int r.1))) am_G0 r.2 := by
  refine am_C_of (by decide +kernel) (Nat.le_of_ble_eq_true rfl) ?_
  change am_S E mX12_smear 4 0 0 (.inl (some (.int r.1))) am_G0 r.2 0 0 0 [(0, .ref 117)] [] am_G0 D
  unfold f_X12_smear at hf
  refine am_aload_n (am_dec tmX12_smear_0 0 rfl) rfl rfl ?_
  refine am_aload_n (am_dec tmX12_smear_0 1 rfl) rfl rfl ?_
  refine am_getR (j := 33) hE (am_dec tmX12_smear_0 2 rfl) sh_117 cf12 (by decide) rfl lf_X12_70 rf_117_33 ?_
  refine am_aload_n (am_dec tmX12_smear_0 3 rfl) rfl rfl ?_
  refine am_getI (j := 36) hE (am_dec tmX12_smear_0 4 rfl) sh_117 cf12 (by decide) rfl lf_X12_253 ?_
  obtain ⟨x2, g1, hf⟩ := am_bd hf
  refine am_callV1 (As := [.ref 221, .int (D.1 117 36)]) (st := []) hE (am_dec tmX12_smear_0 5 rfl) ok_X12_findBlows rfl lm_X12_309 in_X12_findBlows se_X12_findBlows sh_117 cf12 (c_X12_findBlows hE (am_shl sh_221) g1) rfl (by decide) (Nat.le_of_ble_eq_true rfl) (Nat.zero_le _) (Nat.zero_le _) rfl ?_
  refine am_istore_n (lv' := [(0, .ref 117), (1, .int x2.1)]) (am_dec tmX12_smear_0 6 rfl) rfl (by decide) rfl ?_
  refine am_iconst (v := (0 : Int32)) (am_dec tmX12_smear_0 7 rfl) (by decide) ?_
  refine am_istore_n (lv' := [(0, .ref 117), (1, .int x2.1), (2, .int (0 : Int32))]) (am_dec tmX12_smear_0 8 rfl) rfl (by decide) rfl ?_
  refine am_iconst (v := (0 : Int32)) (am_dec tmX12_smear_0 9 rfl) (by decide) ?_
  refine am_istore_n (lv' := [(0, .ref 117), (1, .int x2.1), (2, .int (0 : Int32)), (3, .int (0 : Int32))]) (am_dec tmX12_smear_0 10 rfl) rfl (by decide) rfl ?_
  obtain ⟨e39, g40, hf⟩ := am_bd hf
  refine am_pick [0, 1, 2, 3] rfl (l_X12_smear_L17 hE (Nat.le_refl _) am_fu _ _ _ g40 (fun ex he => ?_))
  subst he
  refine am_iload_n (am_dec tmX12_smear_1 38 rfl) rfl rfl ?_
  have hf := Option.some.inj hf
  subst hf
  exact am_iret (am_dec tmX12_smear_1 39 rfl) rfl (Nat.zero_le _) (Nat.zero_le _)
def f_X12_isStill_L2 (q1 : Int32) (D : am_D) : Nat → Int32 → Option (Unit ⊕ Unit)
  | 0, _ => none
  | n + 1, v2 =>
    if (D.1 117 19) ≤ v2 then
    some (.inr ())
    else
    (f_X12_fromAt (q1 + v2) D).bind fun x3 =>
    if x3 = 0 then
    f_X12_isStill_L2 q1 D n (v2 + (1 : Int32))
    else
    some (.inl ())
def f_X12_isStill (p1 : Int32) (D : am_D) : Option (Int32) :=
    am_b2 (f_X12_isStill_L2 p1 D am_fu (0 : Int32))
    (fun e5 =>
    some (0 : Int32))
    (fun e6 =>
    some (1 : Int32))
set_option maxRecDepth 100000 in
set_option maxHeartbeats 4000000 in
theorem l_X12_isStill_L2 {E : am_E} (hE : am_EH E) {d mc ms : Nat} {o : am_O} {G2 : am_G} {D2 : am_D} (hdp : 2 ≤ d) {q1 : Int32} {D : am_D}  : ∀ (n : Nat) (v2 : Int32) (ex0 : Unit ⊕ Unit), f_X12_isStill_L2 q1 D n v2 = some ex0 → (∀ ex : Unit, ex0 = .inl ex → am_S E mX12_isStill d mc ms o G2 D2 0 0 20 [] [] am_G0 D) → (∀ ex : Unit, ex0 = .inr ex → am_S E mX12_isStill d mc ms o G2 D2 0 0 28 [] [] am_G0 D) → am_S E mX12_isStill d mc ms o G2 D2 0 0 2 [(0, .ref 117), (1, .int q1), (2, .int v2)] [] am_G0 D
  | 0, _, _, hf, _, _ => by
    unfold f_X12_isStill_L2 at hf
    cases hf
  | n + 1, v2, ex0, hf, hk0, hk1 => by
    unfold f_X12_isStill_L2 at hf
    refine am_iload_n (am_dec tmX12_isStill 2 rfl) rfl rfl ?_
    refine am_aload_n (am_dec tmX12_isStill 3 rfl) rfl rfl ?_
    refine am_getI (j := 19) hE (am_dec tmX12_isStill 4 rfl) sh_117 cf12 (by decide) rfl lf_X12_40 ?_
    refine am_icmp_ge (tgt := 28) (am_dec tmX12_isStill 5 rfl) (by decide) (fun c1 => ?_) (fun c1 => ?_)
    · rw [if_pos c1] at hf
      have hf := Option.some.inj hf
      subst hf
      exact am_pick [] rfl (hk1 _ rfl)
    · rw [if_neg c1] at hf
      refine am_aload_n (am_dec tmX12_isStill 6 rfl) rfl rfl ?_
      refine am_iload_n (am_dec tmX12_isStill 7 rfl) rfl rfl ?_
      refine am_iload_n (am_dec tmX12_isStill 8 rfl) rfl rfl ?_
      refine am_iadd (am_dec tmX12_isStill 9 rfl) ?_
      obtain ⟨x3, g2, hf⟩ := am_bd hf
      refine am_callV1 (As := [.int (q1 + v2)]) (st := []) hE (am_dec tmX12_isStill 10 rfl) ok_X12_fromAt rfl lm_X12_312 in_X12_fromAt se_X12_fromAt sh_117 cf12 (c_X12_fromAt hE g2) rfl (Nat.lt_of_lt_of_le (by decide) hdp) (Nat.le_of_ble_eq_true rfl) (Nat.zero_le _) (Nat.zero_le _) rfl ?_
      refine am_if_eq (tgt := 22) (am_dec tmX12_isStill 11 rfl) (by decide) (fun c4 => ?_) (fun c4 => ?_)
      · rw [if_pos c4] at hf
        refine am_iinc (v := (1 : Int32)) (lv' := [(0, .ref 117), (1, .int q1), (2, .int (v2 + (1 : Int32)))]) (am_dec tmX12_isStill 14 rfl) rfl (by decide) (by decide) rfl ?_
        refine am_goto (tgt := 2) (am_dec tmX12_isStill 15 rfl) (by decide) ?_
        exact am_pick [0, 1, 2] rfl (l_X12_isStill_L2 hE hdp n (v2 + (1 : Int32)) ex0 hf hk0 hk1)
      · rw [if_neg c4] at hf
        have hf := Option.some.inj hf
        subst hf
        exact am_pick [] rfl (hk0 _ rfl)
set_option maxRecDepth 100000 in
set_option maxHeartbeats 4000000 in
theorem c_X12_isStill {E : am_E} (hE : am_EH E) {p1 : Int32} {D : am_D} {r : Int32}  (hf : f_X12_isStill p1 D = some r) : am_C E mX12_isStill 2 0 0 [.ref 117, .int p1] am_G0 D (.inl (some (.int r))) am_G0 D := by
  refine am_C_of (by decide +kernel) (Nat.le_of_ble_eq_true rfl) ?_
  change am_S E mX12_isStill 2 0 0 (.inl (some (.int r))) am_G0 D 0 0 0 [(0, .ref 117), (1, .int p1)] [] am_G0 D
  unfold f_X12_isStill at hf
  refine am_iconst (v := (0 : Int32)) (am_dec tmX12_isStill 0 rfl) (by decide) ?_
  refine am_istore_n (lv' := [(0, .ref 117), (1, .int p1), (2, .int (0 : Int32))]) (am_dec tmX12_isStill 1 rfl) rfl (by decide) rfl ?_
  rcases am_b2d hf with ⟨e5, g7, hf⟩ | ⟨e6, g7, hf⟩
  · refine am_pick [0, 1, 2] rfl (l_X12_isStill_L2 hE (Nat.le_refl _) am_fu _ _ g7 (fun ex he => ?_) (fun ex he => by cases he))
    cases he
    refine am_iconst (v := (0 : Int32)) (am_dec tmX12_isStill 12 rfl) (by decide) ?_
    have hf := Option.some.inj hf
    subst hf
    exact am_zret (am_dec tmX12_isStill 13 rfl) rfl am_z0 (Nat.zero_le _) (Nat.zero_le _)
  · refine am_pick [0, 1, 2] rfl (l_X12_isStill_L2 hE (Nat.le_refl _) am_fu _ _ g7 (fun ex he => by cases he) (fun ex he => ?_))
    cases he
    refine am_iconst (v := (1 : Int32)) (am_dec tmX12_isStill 16 rfl) (by decide) ?_
    have hf := Option.some.inj hf
    subst hf
    exact am_zret (am_dec tmX12_isStill 17 rfl) rfl am_z1 (Nat.zero_le _) (Nat.zero_le _)
theorem z_X12_isStill {p1 : Int32} {D : am_D} {r : Int32} (hf : f_X12_isStill p1 D = some r) : narrow .boolean (.int r) = .int r := by
  unfold f_X12_isStill at hf
  rcases am_b2d hf with ⟨e5, g7, hf⟩ | ⟨e6, g7, hf⟩
  · have hf := Option.some.inj hf
    subst hf
    exact am_z0
  · have hf := Option.some.inj hf
    subst hf
    exact am_z1
def f_X12_harmOf_L96  (D : am_D) : Nat → Int32 → Int32 → Option (Int32)
  | 0, _, _ => none
  | n + 1, v2, v3 =>
    if (D.1 117 38) ≤ v3 then
    some (v2)
    else
    (f_X12_placeNow v3 D).bind fun x3 =>
    (f_X12_isStill x3 D).bind fun x5 =>
    (if x5 = 0 then
    some ((0 : Int32))
    else
    (am_gI D 222 1200 v3).bind fun x8 =>
    (f_X12_amount x8).bind fun x11 =>
    some (x11)).bind fun w12 =>
    f_X12_harmOf_L96 D n (v2 + w12) (v3 + (1 : Int32))
def f_X12_harmOf_L30  (D : am_D) : Nat → Int32 → Int32 → Option (Int32)
  | 0, _, _ => none
  | n + 1, v2, v3 =>
    if (D.1 117 39) ≤ v3 then
    some (v2)
    else
    (am_gA 1200 v3).bind fun j17 =>
    (am_gI D (225 + j17) 3 (2 : Int32)).bind fun x19 =>
    f_X12_harmOf_L30 D n (v2 + x19) (v3 + (1 : Int32))
def f_X12_harmOf (p1 : Int32) (D : am_D) : Option ((Int32 × am_D)) :=
    if p1.toInt < 0 ∨ 2 < p1.toInt then
    (f_X12_harmOf_L96 D am_fu (0 : Int32) (0 : Int32)).bind fun e14 =>
    some (e14, D)
    else if p1 = (0 : Int32) then
    (f_X12_harmOf_L30 D am_fu (0 : Int32) (0 : Int32)).bind fun e21 =>
    some (e21, D)
    else if p1 = (1 : Int32) then
    (f_X12_smear D).bind fun x24 =>
    some (x24.1, x24.2)
    else if p1 = (2 : Int32) then
    (f_X12_findBlows 222 (D.1 117 38) D).bind fun x26 =>
    (f_X12_findBlows 221 (x26.2.1 117 36) x26.2).bind fun x28 =>
    (f_X12_more (0 : Int32) (x26.1 - x28.1)).bind fun x30 =>
    some (x30, x28.2)
    else none
set_option maxRecDepth 100000 in
set_option maxHeartbeats 4000000 in
theorem l_X12_harmOf_L96 {E : am_E} (hE : am_EH E) {d mc ms : Nat} {o : am_O} {G2 : am_G} {D2 : am_D} (hdp : 5 ≤ d)  {D : am_D}  : ∀ (n : Nat) (v2 : Int32) (v3 : Int32) (ex0 : Int32), f_X12_harmOf_L96  D n v2 v3 = some ex0 → (∀ ex : Int32, ex0 = ex → am_S E mX12_harmOf d mc ms o G2 D2 0 0 138 [(2, .int ex)] [] am_G0 D) → am_S E mX12_harmOf d mc ms o G2 D2 0 0 96 [(0, .ref 117), (2, .int v2), (3, .int v3)] [] am_G0 D
  | 0, _, _, _, hf, _ => by
    unfold f_X12_harmOf_L96 at hf
    cases hf
  | n + 1, v2, v3, ex0, hf, hk0 => by
    unfold f_X12_harmOf_L96 at hf
    refine am_iload_n (am_dec tmX12_harmOf_0 46 rfl) rfl rfl ?_
    refine am_aload_n (am_dec tmX12_harmOf_0 47 rfl) rfl rfl ?_
    refine am_getI (j := 38) hE (am_dec tmX12_harmOf_0 48 rfl) sh_117 cf12 (by decide) rfl lf_X12_262 ?_
    refine am_icmp_ge (tgt := 138) (am_dec tmX12_harmOf_0 49 rfl) (by decide) (fun c1 => ?_) (fun c1 => ?_)
    · rw [if_pos c1] at hf
      have hf := Option.some.inj hf
      subst hf
      exact am_pick [1] rfl (hk0 _ rfl)
    · rw [if_neg c1] at hf
      refine am_iload_n (am_dec tmX12_harmOf_0 50 rfl) rfl rfl ?_
      refine am_aload_n (am_dec tmX12_harmOf_0 51 rfl) rfl rfl ?_
      refine am_aload_n (am_dec tmX12_harmOf_0 52 rfl) rfl rfl ?_
      refine am_iload_n (am_dec tmX12_harmOf_0 53 rfl) rfl rfl ?_
      obtain ⟨x3, g2, hf⟩ := am_bd hf
      refine am_callV1 (As := [.int v3]) (st := [.ref 117, .int v2]) hE (am_dec tmX12_harmOf_0 54 rfl) ok_X12_placeNow rfl lm_X12_226 in_X12_placeNow se_X12_placeNow sh_117 cf12 (c_X12_placeNow hE g2) rfl (Nat.lt_of_lt_of_le (by decide) hdp) (Nat.le_of_ble_eq_true rfl) (Nat.zero_le _) (Nat.zero_le _) rfl ?_
      obtain ⟨x5, g4, hf⟩ := am_bd hf
      refine am_callV1 (As := [.int x3]) (st := [.int v2]) hE (am_dec tmX12_harmOf_0 55 rfl) ok_X12_isStill rfl lm_X12_318 in_X12_isStill se_X12_isStill sh_117 cf12 (c_X12_isStill hE g4) rfl (Nat.lt_of_lt_of_le (by decide) hdp) (Nat.le_of_ble_eq_true rfl) (Nat.zero_le _) (Nat.zero_le _) rfl ?_
      obtain ⟨w12, g13, hf⟩ := am_bd hf
      have key7 : am_S E mX12_harmOf d mc ms o G2 D2 0 0 130 [(0, .ref 117), (3, .int v3)] [.int w12, .int v2] am_G0 D := by
        refine am_iadd (am_dec tmX12_harmOf_1 4 rfl) ?_
        refine am_istore_n (lv' := [(0, .ref 117), (2, .int (v2 + w12)), (3, .int v3)]) (am_dec tmX12_harmOf_1 5 rfl) rfl (by decide) rfl ?_
        refine am_iinc (v := (1 : Int32)) (lv' := [(0, .ref 117), (2, .int (v2 + w12)), (3, .int (v3 + (1 : Int32)))]) (am_dec tmX12_harmOf_1 6 rfl) rfl (by decide) (by decide) rfl ?_
        refine am_goto (tgt := 96) (am_dec tmX12_harmOf_1 7 rfl) (by decide) ?_
        exact am_pick [0, 1, 2] rfl (l_X12_harmOf_L96 hE hdp n (v2 + w12) (v3 + (1 : Int32)) ex0 hf hk0)
      replace hf := g13
      refine am_if_eq (tgt := 129) (am_dec tmX12_harmOf_0 56 rfl) (by decide) (fun c6 => ?_) (fun c6 => ?_)
      · rw [if_pos c6] at hf
        refine am_iconst (v := (0 : Int32)) (am_dec tmX12_harmOf_1 3 rfl) (by decide) ?_
        have hf := Option.some.inj hf
        subst hf
        exact am_pick [0, 2] rfl key7
      · rw [if_neg c6] at hf
        refine am_aload_n (am_dec tmX12_harmOf_0 57 rfl) rfl rfl ?_
        refine am_getR (j := 34) hE (am_dec tmX12_harmOf_0 58 rfl) sh_117 cf12 (by decide) rfl lf_X12_73 rf_117_34 ?_
        refine am_iload_n (am_dec tmX12_harmOf_0 59 rfl) rfl rfl ?_
        obtain ⟨x8, g9, hf⟩ := am_bd hf
        refine am_iald2 hE (am_dec tmX12_harmOf_1 0 rfl) sh_222 g9 ?_
        obtain ⟨x11, g10, hf⟩ := am_bd hf
        refine am_callS1 (As := [.int x8]) (st := [.int v2]) (am_dec tmX12_harmOf_1 1 rfl) ok_X12_amount rfl lm_X12_281 st_X12_amount (c_X12_amount hE g10) rfl (Nat.lt_of_lt_of_le (by decide) hdp) (Nat.le_of_ble_eq_true rfl) (Nat.zero_le _) (Nat.zero_le _) rfl ?_
        refine am_goto (tgt := 130) (am_dec tmX12_harmOf_1 2 rfl) (by decide) ?_
        have hf := Option.some.inj hf
        subst hf
        exact am_pick [0, 2] rfl key7
set_option maxRecDepth 100000 in
set_option maxHeartbeats 4000000 in
theorem l_X12_harmOf_L30 {E : am_E} (hE : am_EH E) {d mc ms : Nat} {o : am_O} {G2 : am_G} {D2 : am_D} (hdp : 5 ≤ d)  {D : am_D}  : ∀ (n : Nat) (v2 : Int32) (v3 : Int32) (ex0 : Int32), f_X12_harmOf_L30  D n v2 v3 = some ex0 → (∀ ex : Int32, ex0 = ex → am_S E mX12_harmOf d mc ms o G2 D2 0 0 55 [(2, .int ex)] [] am_G0 D) → am_S E mX12_harmOf d mc ms o G2 D2 0 0 30 [(0, .ref 117), (2, .int v2), (3, .int v3)] [] am_G0 D
  | 0, _, _, _, hf, _ => by
    unfold f_X12_harmOf_L30 at hf
    cases hf
  | n + 1, v2, v3, ex0, hf, hk0 => by
    unfold f_X12_harmOf_L30 at hf
    refine am_iload_n (am_dec tmX12_harmOf_0 6 rfl) rfl rfl ?_
    refine am_aload_n (am_dec tmX12_harmOf_0 7 rfl) rfl rfl ?_
    refine am_getI (j := 39) hE (am_dec tmX12_harmOf_0 8 rfl) sh_117 cf12 (by decide) rfl lf_X12_250 ?_
    refine am_icmp_ge (tgt := 55) (am_dec tmX12_harmOf_0 9 rfl) (by decide) (fun c16 => ?_) (fun c16 => ?_)
    · rw [if_pos c16] at hf
      have hf := Option.some.inj hf
      subst hf
      exact am_pick [1] rfl (hk0 _ rfl)
    · rw [if_neg c16] at hf
      refine am_iload_n (am_dec tmX12_harmOf_0 10 rfl) rfl rfl ?_
      refine am_aload_n (am_dec tmX12_harmOf_0 11 rfl) rfl rfl ?_
      refine am_getR (j := 41) hE (am_dec tmX12_harmOf_0 12 rfl) sh_117 cf12 (by decide) rfl lf_X12_79 rf_117_41 ?_
      refine am_iload_n (am_dec tmX12_harmOf_0 13 rfl) rfl rfl ?_
      obtain ⟨j17, g18, hf⟩ := am_bd hf
      have hj_j17 := (am_gA_lt g18).1
      refine am_aald2 (t := 6) hE (am_dec tmX12_harmOf_0 14 rfl) sh_224 (by decide) rfl rfl g18 (rr_224 hj_j17) ?_
      refine am_iconst (v := (2 : Int32)) (am_dec tmX12_harmOf_0 15 rfl) (by decide) ?_
      obtain ⟨x19, g20, hf⟩ := am_bd hf
      refine am_iald2 hE (am_dec tmX12_harmOf_0 16 rfl) (sa_224_0 hj_j17) g20 ?_
      refine am_iadd (am_dec tmX12_harmOf_0 17 rfl) ?_
      refine am_istore_n (lv' := [(0, .ref 117), (2, .int (v2 + x19)), (3, .int v3)]) (am_dec tmX12_harmOf_0 18 rfl) rfl (by decide) rfl ?_
      refine am_iinc (v := (1 : Int32)) (lv' := [(0, .ref 117), (2, .int (v2 + x19)), (3, .int (v3 + (1 : Int32)))]) (am_dec tmX12_harmOf_0 19 rfl) rfl (by decide) (by decide) rfl ?_
      refine am_goto (tgt := 30) (am_dec tmX12_harmOf_0 20 rfl) (by decide) ?_
      exact am_pick [0, 1, 2] rfl (l_X12_harmOf_L30 hE hdp n (v2 + x19) (v3 + (1 : Int32)) ex0 hf hk0)
set_option maxRecDepth 100000 in
set_option maxHeartbeats 4000000 in
theorem c_X12_harmOf {E : am_E} (hE : am_EH E) {p1 : Int32} {D : am_D} {r : (Int32 × am_D)}  (hf : f_X12_harmOf p1 D = some r) : am_C E mX12_harmOf 5 0 0 [.ref 117, .int p1] am_G0 D (.inl (some (.int r.1))) am_G0 r.2 := by
  refine am_C_of (by decide +kernel) (Nat.le_of_ble_eq_true rfl) ?_
  change am_S E mX12_harmOf 5 0 0 (.inl (some (.int r.1))) am_G0 r.2 0 0 0 [(0, .ref 117), (1, .int p1)] [] am_G0 D
  unfold f_X12_harmOf at hf
  refine am_iconst (v := (0 : Int32)) (am_dec tmX12_harmOf_0 0 rfl) (by decide) ?_
  refine am_istore_n (lv' := [(0, .ref 117), (1, .int p1), (2, .int (0 : Int32))]) (am_dec tmX12_harmOf_0 1 rfl) rfl (by decide) rfl ?_
  refine am_iload_n (am_dec tmX12_harmOf_0 2 rfl) rfl rfl ?_
  by_cases hsw : p1.toInt < 0 ∨ 2 < p1.toInt
  · rw [if_pos hsw] at hf
    refine am_tableOut (tgt := 94) (am_dec tmX12_harmOf_0 3 rfl) hsw (by decide) ?_
    refine am_iconst (v := (0 : Int32)) (am_dec tmX12_harmOf_0 44 rfl) (by decide) ?_
    refine am_istore_n (lv' := [(0, .ref 117), (1, .int p1), (2, .int (0 : Int32)), (3, .int (0 : Int32))]) (am_dec tmX12_harmOf_0 45 rfl) rfl (by decide) rfl ?_
    obtain ⟨e14, g15, hf⟩ := am_bd hf
    refine am_pick [0, 2, 3] rfl (l_X12_harmOf_L96 hE (Nat.le_refl _) am_fu _ _ _ g15 (fun ex he => ?_))
    subst he
    refine am_iload_n (am_dec tmX12_harmOf_1 8 rfl) rfl rfl ?_
    have hf := Option.some.inj hf
    subst hf
    exact am_iret (am_dec tmX12_harmOf_1 9 rfl) rfl (Nat.zero_le _) (Nat.zero_le _)
  · rw [if_neg hsw] at hf
    by_cases hs0 : p1 = (0 : Int32)
    · rw [if_pos hs0] at hf
      refine am_tableIn (off := 25) (tgt := 28) (am_dec tmX12_harmOf_0 3 rfl) (fun q9 => hsw (Or.inl q9)) (fun q9 => hsw (Or.inr q9)) (by rw [hs0]; rfl) (by decide) ?_
      refine am_iconst (v := (0 : Int32)) (am_dec tmX12_harmOf_0 4 rfl) (by decide) ?_
      refine am_istore_n (lv' := [(0, .ref 117), (1, .int p1), (2, .int (0 : Int32)), (3, .int (0 : Int32))]) (am_dec tmX12_harmOf_0 5 rfl) rfl (by decide) rfl ?_
      obtain ⟨e21, g22, hf⟩ := am_bd hf
      refine am_pick [0, 2, 3] rfl (l_X12_harmOf_L30 hE (Nat.le_refl _) am_fu _ _ _ g22 (fun ex he => ?_))
      subst he
      refine am_iload_n (am_dec tmX12_harmOf_0 21 rfl) rfl rfl ?_
      have hf := Option.some.inj hf
      subst hf
      exact am_iret (am_dec tmX12_harmOf_0 22 rfl) rfl (Nat.zero_le _) (Nat.zero_le _)
    rw [if_neg hs0] at hf
    by_cases hs1 : p1 = (1 : Int32)
    · rw [if_pos hs1] at hf
      refine am_tableIn (off := 54) (tgt := 57) (am_dec tmX12_harmOf_0 3 rfl) (fun q9 => hsw (Or.inl q9)) (fun q9 => hsw (Or.inr q9)) (by rw [hs1]; rfl) (by decide) ?_
      refine am_aload_n (am_dec tmX12_harmOf_0 23 rfl) rfl rfl ?_
      obtain ⟨x24, g23, hf⟩ := am_bd hf
      refine am_callV1 (As := []) (st := []) hE (am_dec tmX12_harmOf_0 24 rfl) ok_X12_smear rfl lm_X12_315 in_X12_smear se_X12_smear sh_117 cf12 (c_X12_smear hE g23) rfl (by decide) (Nat.le_of_ble_eq_true rfl) (Nat.zero_le _) (Nat.zero_le _) rfl ?_
      have hf := Option.some.inj hf
      subst hf
      exact am_iret (am_dec tmX12_harmOf_0 25 rfl) rfl (Nat.zero_le _) (Nat.zero_le _)
    rw [if_neg hs1] at hf
    by_cases hs2 : p1 = (2 : Int32)
    · rw [if_pos hs2] at hf
      refine am_tableIn (off := 59) (tgt := 62) (am_dec tmX12_harmOf_0 3 rfl) (fun q9 => hsw (Or.inl q9)) (fun q9 => hsw (Or.inr q9)) (by rw [hs2]; rfl) (by decide) ?_
      refine am_aload_n (am_dec tmX12_harmOf_0 26 rfl) rfl rfl ?_
      refine am_aload_n (am_dec tmX12_harmOf_0 27 rfl) rfl rfl ?_
      refine am_getR (j := 34) hE (am_dec tmX12_harmOf_0 28 rfl) sh_117 cf12 (by decide) rfl lf_X12_73 rf_117_34 ?_
      refine am_aload_n (am_dec tmX12_harmOf_0 29 rfl) rfl rfl ?_
      refine am_getI (j := 38) hE (am_dec tmX12_harmOf_0 30 rfl) sh_117 cf12 (by decide) rfl lf_X12_262 ?_
      obtain ⟨x26, g25, hf⟩ := am_bd hf
      refine am_callV1 (As := [.ref 222, .int (D.1 117 38)]) (st := []) hE (am_dec tmX12_harmOf_0 31 rfl) ok_X12_findBlows rfl lm_X12_309 in_X12_findBlows se_X12_findBlows sh_117 cf12 (c_X12_findBlows hE (am_shl sh_222) g25) rfl (by decide) (Nat.le_of_ble_eq_true rfl) (Nat.zero_le _) (Nat.zero_le _) rfl ?_
      refine am_istore_n (lv' := [(0, .ref 117), (1, .int p1), (2, .int x26.1)]) (am_dec tmX12_harmOf_0 32 rfl) rfl (by decide) rfl ?_
      refine am_iconst (v := (0 : Int32)) (am_dec tmX12_harmOf_0 33 rfl) (by decide) ?_
      refine am_iload_n (am_dec tmX12_harmOf_0 34 rfl) rfl rfl ?_
      refine am_aload_n (am_dec tmX12_harmOf_0 35 rfl) rfl rfl ?_
      refine am_aload_n (am_dec tmX12_harmOf_0 36 rfl) rfl rfl ?_
      refine am_getR (j := 33) hE (am_dec tmX12_harmOf_0 37 rfl) sh_117 cf12 (by decide) rfl lf_X12_70 rf_117_33 ?_
      refine am_aload_n (am_dec tmX12_harmOf_0 38 rfl) rfl rfl ?_
      refine am_getI (j := 36) hE (am_dec tmX12_harmOf_0 39 rfl) sh_117 cf12 (by decide) rfl lf_X12_253 ?_
      obtain ⟨x28, g27, hf⟩ := am_bd hf
      refine am_callV1 (As := [.ref 221, .int (x26.2.1 117 36)]) (st := [.int x26.1, .int (0 : Int32)]) hE (am_dec tmX12_harmOf_0 40 rfl) ok_X12_findBlows rfl lm_X12_309 in_X12_findBlows se_X12_findBlows sh_117 cf12 (c_X12_findBlows hE (am_shl sh_221) g27) rfl (by decide) (Nat.le_of_ble_eq_true rfl) (Nat.zero_le _) (Nat.zero_le _) rfl ?_
      refine am_isub (am_dec tmX12_harmOf_0 41 rfl) ?_
      obtain ⟨x30, g29, hf⟩ := am_bd hf
      refine am_callS1 (As := [.int (0 : Int32), .int (x26.1 - x28.1)]) (st := []) (am_dec tmX12_harmOf_0 42 rfl) ok_X12_more rfl lm_X12_306 st_X12_more (c_X12_more hE g29) rfl (by decide) (Nat.le_of_ble_eq_true rfl) (Nat.zero_le _) (Nat.zero_le _) rfl ?_
      have hf := Option.some.inj hf
      subst hf
      exact am_iret (am_dec tmX12_harmOf_0 43 rfl) rfl (Nat.zero_le _) (Nat.zero_le _)
    rw [if_neg hs2] at hf
    cases hf
def f_X12_counted_L4  : Nat → Int64 → Int32 → am_D → Option (Int64 × am_D)
  | 0, _, _, _ => none
  | n + 1, v1, v3, D =>
    if (4 : Int32) ≤ v3 then
    some (v1, D)
    else
    (f_X12_harmOf v3 D).bind fun x3 =>
    (am_gI x3.2 202 4 v3).bind fun x4 =>
    f_X12_counted_L4 n (v1 + ((Int32.toInt64 x3.1) * (Int32.toInt64 x4))) (v3 + (1 : Int32)) x3.2
def f_X12_counted (D : am_D) : Option ((Int32 × am_D)) :=
    (f_X12_counted_L4 am_fu (0 : Int64) (0 : Int32) D).bind fun e6 =>
    if (lg_cmp e6.1 (1000000000 : Int64)) ≤ 0 then
    some ((Int64.toInt32 e6.1), e6.2)
    else
    some ((1000000000 : Int32), e6.2)
set_option maxRecDepth 100000 in
set_option maxHeartbeats 4000000 in
theorem l_X12_counted_L4 {E : am_E} (hE : am_EH E) {d mc ms : Nat} {o : am_O} {G2 : am_G} {D2 : am_D} (hdp : 6 ≤ d)   : ∀ (n : Nat) (v1 : Int64) (v3 : Int32) (D : am_D) (ex0 : Int64 × am_D), f_X12_counted_L4  n v1 v3 D = some ex0 → (∀ ex : Int64 × am_D, ex0 = ex → am_S E mX12_counted d mc ms o G2 D2 0 0 32 [(1, .long ex.1)] [] am_G0 ex.2) → am_S E mX12_counted d mc ms o G2 D2 0 0 4 [(0, .ref 117), (1, .long v1), (3, .int v3)] [] am_G0 D
  | 0, _, _, _, _, hf, _ => by
    unfold f_X12_counted_L4 at hf
    cases hf
  | n + 1, v1, v3, D, ex0, hf, hk0 => by
    unfold f_X12_counted_L4 at hf
    refine am_iload_n (am_dec tmX12_counted 4 rfl) rfl rfl ?_
    refine am_iconst (v := (4 : Int32)) (am_dec tmX12_counted 5 rfl) (by decide) ?_
    refine am_icmp_ge (tgt := 32) (am_dec tmX12_counted 6 rfl) (by decide) (fun c1 => ?_) (fun c1 => ?_)
    · rw [if_pos c1] at hf
      have hf := Option.some.inj hf
      subst hf
      exact am_pick [1] rfl (hk0 _ rfl)
    · rw [if_neg c1] at hf
      refine am_lload_n (am_dec tmX12_counted 7 rfl) rfl rfl ?_
      refine am_aload_n (am_dec tmX12_counted 8 rfl) rfl rfl ?_
      refine am_iload_n (am_dec tmX12_counted 9 rfl) rfl rfl ?_
      obtain ⟨x3, g2, hf⟩ := am_bd hf
      refine am_callV1 (As := [.int v3]) (st := [.long v1]) hE (am_dec tmX12_counted 10 rfl) ok_X12_harmOf rfl lm_X12_321 in_X12_harmOf se_X12_harmOf sh_117 cf12 (c_X12_harmOf hE g2) rfl (Nat.lt_of_lt_of_le (by decide) hdp) (Nat.le_of_ble_eq_true rfl) (Nat.zero_le _) (Nat.zero_le _) rfl ?_
      refine am_i2l (am_dec tmX12_counted 11 rfl) ?_
      refine am_aload_n (am_dec tmX12_counted 12 rfl) rfl rfl ?_
      refine am_getR (j := 28) hE (am_dec tmX12_counted 13 rfl) sh_117 cf12 (by decide) rfl lf_X12_55 rf_117_28 ?_
      refine am_iload_n (am_dec tmX12_counted 14 rfl) rfl rfl ?_
      obtain ⟨x4, g5, hf⟩ := am_bd hf
      refine am_iald2 hE (am_dec tmX12_counted 15 rfl) sh_202 g5 ?_
      refine am_i2l (am_dec tmX12_counted 16 rfl) ?_
      refine am_lmul (am_dec tmX12_counted 17 rfl) ?_
      refine am_ladd (am_dec tmX12_counted 18 rfl) ?_
      refine am_lstore_n (lv' := [(0, .ref 117), (1, .long (v1 + ((Int32.toInt64 x3.1) * (Int32.toInt64 x4)))), (3, .int v3)]) (am_dec tmX12_counted 19 rfl) rfl (by decide) rfl ?_
      refine am_iinc (v := (1 : Int32)) (lv' := [(0, .ref 117), (1, .long (v1 + ((Int32.toInt64 x3.1) * (Int32.toInt64 x4)))), (3, .int (v3 + (1 : Int32)))]) (am_dec tmX12_counted 20 rfl) rfl (by decide) (by decide) rfl ?_
      refine am_goto (tgt := 4) (am_dec tmX12_counted 21 rfl) (by decide) ?_
      exact am_pick [0, 1, 2] rfl (l_X12_counted_L4 hE hdp n (v1 + ((Int32.toInt64 x3.1) * (Int32.toInt64 x4))) (v3 + (1 : Int32)) x3.2 ex0 hf hk0)
set_option maxRecDepth 100000 in
set_option maxHeartbeats 4000000 in
theorem c_X12_counted {E : am_E} (hE : am_EH E) {D : am_D} {r : (Int32 × am_D)}  (hf : f_X12_counted D = some r) : am_C E mX12_counted 6 0 0 [.ref 117] am_G0 D (.inl (some (.int r.1))) am_G0 r.2 := by
  refine am_C_of (by decide +kernel) (Nat.le_of_ble_eq_true rfl) ?_
  change am_S E mX12_counted 6 0 0 (.inl (some (.int r.1))) am_G0 r.2 0 0 0 [(0, .ref 117)] [] am_G0 D
  unfold f_X12_counted at hf
  refine am_lconst (v := (0 : Int64)) (am_dec tmX12_counted 0 rfl) (by decide) ?_
  refine am_lstore_n (lv' := [(0, .ref 117), (1, .long (0 : Int64))]) (am_dec tmX12_counted 1 rfl) rfl (by decide) rfl ?_
  refine am_iconst (v := (0 : Int32)) (am_dec tmX12_counted 2 rfl) (by decide) ?_
  refine am_istore_n (lv' := [(0, .ref 117), (1, .long (0 : Int64)), (3, .int (0 : Int32))]) (am_dec tmX12_counted 3 rfl) rfl (by decide) rfl ?_
  obtain ⟨e6, g8, hf⟩ := am_bd hf
  refine am_pick [0, 1, 2] rfl (l_X12_counted_L4 hE (Nat.le_refl _) am_fu _ _ _ _ g8 (fun ex he => ?_))
  subst he
  refine am_lload_n (am_dec tmX12_counted 22 rfl) rfl rfl ?_
  refine am_ldc2 (v := (1000000000 : Int64)) (am_dec tmX12_counted 23 rfl) lc_X12_324 ?_
  refine am_lcmp (am_dec tmX12_counted 24 rfl) ?_
  refine am_if_le (tgt := 46) (am_dec tmX12_counted 25 rfl) (by decide) (fun c7 => ?_) (fun c7 => ?_)
  · rw [if_pos c7] at hf
    refine am_lload_n (am_dec tmX12_counted 28 rfl) rfl rfl ?_
    refine am_l2i (am_dec tmX12_counted 29 rfl) ?_
    have hf := Option.some.inj hf
    subst hf
    exact am_iret (am_dec tmX12_counted 30 rfl) rfl (Nat.zero_le _) (Nat.zero_le _)
  · rw [if_neg c7] at hf
    refine am_ldcw (v := (1000000000 : Int32)) (am_dec tmX12_counted 26 rfl) lc_X12_326 ?_
    refine am_goto (tgt := 48) (am_dec tmX12_counted 27 rfl) (by decide) ?_
    have hf := Option.some.inj hf
    subst hf
    exact am_iret (am_dec tmX12_counted 30 rfl) rfl (Nat.zero_le _) (Nat.zero_le _)
def f_X12_harm (p1 : Int32) (D : am_D) : Option ((Int32 × am_D)) :=
    (some (am_wI D 117 0 (0 : Int32))).bind fun D1 =>
    (f_X12_in p1 (0 : Int32) (4 : Int32)).bind fun x4 =>
    (if x4 = 0 then
    some ((1 : Int32))
    else
    some ((0 : Int32))).bind fun w7 =>
    (f_X12_bad w7 (1 : Int32) D1).bind fun x9 =>
    if x9.1 = 0 then
    if (x9.2.1 117 40) = 0 then
    some ((-1 : Int32), x9.2)
    else
    if p1 = (4 : Int32) then
    (f_X12_counted x9.2).bind fun x16 =>
    some (x16.1, x16.2)
    else
    (f_X12_harmOf p1 x9.2).bind fun x14 =>
    some (x14.1, x14.2)
    else
    some ((0 : Int32), x9.2)
set_option maxRecDepth 100000 in
set_option maxHeartbeats 4000000 in
theorem c_X12_harm {E : am_E} (hE : am_EH E) {p1 : Int32} {D : am_D} {r : (Int32 × am_D)}  (hf : f_X12_harm p1 D = some r) : am_C E mX12_harm 7 0 0 [.ref 117, .int p1] am_G0 D (.inl (some (.int r.1))) am_G0 r.2 := by
  refine am_C_of (by decide +kernel) (Nat.le_of_ble_eq_true rfl) ?_
  change am_S E mX12_harm 7 0 0 (.inl (some (.int r.1))) am_G0 r.2 0 0 0 [(0, .ref 117), (1, .int p1)] [] am_G0 D
  unfold f_X12_harm at hf
  refine am_aload_n (am_dec tmX12_harm 0 rfl) rfl rfl ?_
  refine am_iconst (v := (0 : Int32)) (am_dec tmX12_harm 1 rfl) (by decide) ?_
  obtain ⟨D1, g2, hf⟩ := am_bd hf
  refine am_putI2 (j := 0) hE (am_dec tmX12_harm 2 rfl) sh_117 cf12 (by decide) rfl lf_X12_110 rfl rfl rfl g2 ?_
  refine am_aload_n (am_dec tmX12_harm 3 rfl) rfl rfl ?_
  refine am_iload_n (am_dec tmX12_harm 4 rfl) rfl rfl ?_
  refine am_iconst (v := (0 : Int32)) (am_dec tmX12_harm 5 rfl) (by decide) ?_
  refine am_iconst (v := (4 : Int32)) (am_dec tmX12_harm 6 rfl) (by decide) ?_
  obtain ⟨x4, g3, hf⟩ := am_bd hf
  refine am_callS1 (As := [.int p1, .int (0 : Int32), .int (4 : Int32)]) (st := [.ref 117]) (am_dec tmX12_harm 7 rfl) ok_X12_in rfl lm_X12_144 st_X12_in (c_X12_in hE g3) rfl (by decide) (Nat.le_of_ble_eq_true rfl) (Nat.zero_le _) (Nat.zero_le _) rfl ?_
  obtain ⟨w7, g17, hf⟩ := am_bd hf
  have key6 : am_S E mX12_harm 7 0 0 (.inl (some (.int r.1))) am_G0 r.2 0 0 20 [(0, .ref 117), (1, .int p1)] [.int w7, .ref 117] am_G0 D1 := by
    refine am_iconst (v := (1 : Int32)) (am_dec tmX12_harm 12 rfl) (by decide) ?_
    obtain ⟨x9, g8, hf⟩ := am_bd hf
    refine am_callV1 (As := [.int w7, .int (1 : Int32)]) (st := []) hE (am_dec tmX12_harm 13 rfl) ok_X12_bad rfl lm_X12_191 in_X12_bad se_X12_bad sh_117 cf12 (c_X12_bad hE g8) rfl (by decide) (Nat.le_of_ble_eq_true rfl) (Nat.zero_le _) (Nat.zero_le _) rfl ?_
    refine am_if_eq (tgt := 29) (am_dec tmX12_harm 14 rfl) (by decide) (fun c10 => ?_) (fun c10 => ?_)
    · rw [if_pos c10] at hf
      refine am_aload_n (am_dec tmX12_harm 17 rfl) rfl rfl ?_
      refine am_getI (j := 40) hE (am_dec tmX12_harm 18 rfl) sh_117 cf12 (by decide) rfl lf_X12_271 ?_
      refine am_if_ne (tgt := 40) (am_dec tmX12_harm 19 rfl) (by decide) (fun c11 => ?_) (fun c11 => ?_)
      · rw [if_neg c11] at hf
        refine am_iload_n (am_dec tmX12_harm 22 rfl) rfl rfl ?_
        refine am_iconst (v := (4 : Int32)) (am_dec tmX12_harm 23 rfl) (by decide) ?_
        refine am_icmp_ne (tgt := 52) (am_dec tmX12_harm 24 rfl) (by decide) (fun c12 => ?_) (fun c12 => ?_)
        · rw [if_neg c12] at hf
          refine am_aload_n (am_dec tmX12_harm 28 rfl) rfl rfl ?_
          refine am_iload_n (am_dec tmX12_harm 29 rfl) rfl rfl ?_
          obtain ⟨x14, g13, hf⟩ := am_bd hf
          refine am_callV1 (As := [.int p1]) (st := []) hE (am_dec tmX12_harm 30 rfl) ok_X12_harmOf rfl lm_X12_321 in_X12_harmOf se_X12_harmOf sh_117 cf12 (c_X12_harmOf hE g13) rfl (by decide) (Nat.le_of_ble_eq_true rfl) (Nat.zero_le _) (Nat.zero_le _) rfl ?_
          have hf := Option.some.inj hf
          subst hf
          exact am_iret (am_dec tmX12_harm 31 rfl) rfl (Nat.zero_le _) (Nat.zero_le _)
        · rw [if_pos c12] at hf
          refine am_aload_n (am_dec tmX12_harm 25 rfl) rfl rfl ?_
          obtain ⟨x16, g15, hf⟩ := am_bd hf
          refine am_callV1 (As := []) (st := []) hE (am_dec tmX12_harm 26 rfl) ok_X12_counted rfl lm_X12_327 in_X12_counted se_X12_counted sh_117 cf12 (c_X12_counted hE g15) rfl (by decide) (Nat.le_of_ble_eq_true rfl) (Nat.zero_le _) (Nat.zero_le _) rfl ?_
          refine am_goto (tgt := 57) (am_dec tmX12_harm 27 rfl) (by decide) ?_
          have hf := Option.some.inj hf
          subst hf
          exact am_iret (am_dec tmX12_harm 31 rfl) rfl (Nat.zero_le _) (Nat.zero_le _)
      · rw [if_pos c11] at hf
        refine am_iconst (v := (-1 : Int32)) (am_dec tmX12_harm 20 rfl) (by decide) ?_
        refine am_goto (tgt := 57) (am_dec tmX12_harm 21 rfl) (by decide) ?_
        have hf := Option.some.inj hf
        subst hf
        exact am_iret (am_dec tmX12_harm 31 rfl) rfl (Nat.zero_le _) (Nat.zero_le _)
    · rw [if_neg c10] at hf
      refine am_iconst (v := (0 : Int32)) (am_dec tmX12_harm 15 rfl) (by decide) ?_
      have hf := Option.some.inj hf
      subst hf
      exact am_iret (am_dec tmX12_harm 16 rfl) rfl (Nat.zero_le _) (Nat.zero_le _)
  replace hf := g17
  refine am_if_ne (tgt := 19) (am_dec tmX12_harm 8 rfl) (by decide) (fun c5 => ?_) (fun c5 => ?_)
  · rw [if_neg c5] at hf
    refine am_iconst (v := (0 : Int32)) (am_dec tmX12_harm 11 rfl) (by decide) ?_
    have hf := Option.some.inj hf
    subst hf
    exact am_pick [0, 1] rfl key6
  · rw [if_pos c5] at hf
    refine am_iconst (v := (1 : Int32)) (am_dec tmX12_harm 9 rfl) (by decide) ?_
    refine am_goto (tgt := 20) (am_dec tmX12_harm 10 rfl) (by decide) ?_
    have hf := Option.some.inj hf
    subst hf
    exact am_pick [0, 1] rfl key6
def f_X12_weigh (p1 : Int32) (p2 : Int32) (D : am_D) : Option ((Int32 × am_D)) :=
    (some (am_wI D 117 0 (0 : Int32))).bind fun D1 =>
    (f_X12_in p1 (0 : Int32) (3 : Int32)).bind fun x4 =>
    (if x4 = 0 then
    some ((1 : Int32))
    else
    (f_X12_in p2 (0 : Int32) (999 : Int32)).bind fun x8 =>
    if x8 = 0 then
    some ((1 : Int32))
    else
    some ((0 : Int32))).bind fun w10 =>
    (f_X12_bad w10 (1 : Int32) D1).bind fun x12 =>
    if x12.1 = 0 then
    (am_gI x12.2 202 4 p1).bind fun x14 =>
    (am_pI x12.2 202 4 p1 p2).bind fun D16 =>
    some (x14, D16)
    else
    some ((0 : Int32), x12.2)
set_option maxRecDepth 100000 in
set_option maxHeartbeats 4000000 in
theorem c_X12_weigh {E : am_E} (hE : am_EH E) {p1 : Int32} {p2 : Int32} {D : am_D} {r : (Int32 × am_D)}  (hf : f_X12_weigh p1 p2 D = some r) : am_C E mX12_weigh 2 0 0 [.ref 117, .int p1, .int p2] am_G0 D (.inl (some (.int r.1))) am_G0 r.2 := by
  refine am_C_of (by decide +kernel) (Nat.le_of_ble_eq_true rfl) ?_
  change am_S E mX12_weigh 2 0 0 (.inl (some (.int r.1))) am_G0 r.2 0 0 0 [(0, .ref 117), (1, .int p1), (2, .int p2)] [] am_G0 D
  unfold f_X12_weigh at hf
  refine am_aload_n (am_dec tmX12_weigh 0 rfl) rfl rfl ?_
  refine am_iconst (v := (0 : Int32)) (am_dec tmX12_weigh 1 rfl) (by decide) ?_
  obtain ⟨D1, g2, hf⟩ := am_bd hf
  refine am_putI2 (j := 0) hE (am_dec tmX12_weigh 2 rfl) sh_117 cf12 (by decide) rfl lf_X12_110 rfl rfl rfl g2 ?_
  refine am_aload_n (am_dec tmX12_weigh 3 rfl) rfl rfl ?_
  refine am_iload_n (am_dec tmX12_weigh 4 rfl) rfl rfl ?_
  refine am_iconst (v := (0 : Int32)) (am_dec tmX12_weigh 5 rfl) (by decide) ?_
  refine am_iconst (v := (3 : Int32)) (am_dec tmX12_weigh 6 rfl) (by decide) ?_
  obtain ⟨x4, g3, hf⟩ := am_bd hf
  refine am_callS1 (As := [.int p1, .int (0 : Int32), .int (3 : Int32)]) (st := [.ref 117]) (am_dec tmX12_weigh 7 rfl) ok_X12_in rfl lm_X12_144 st_X12_in (c_X12_in hE g3) rfl (by decide) (Nat.le_of_ble_eq_true rfl) (Nat.zero_le _) (Nat.zero_le _) rfl ?_
  obtain ⟨w10, g18, hf⟩ := am_bd hf
  have key6 : am_S E mX12_weigh 2 0 0 (.inl (some (.int r.1))) am_G0 r.2 0 0 31 [(0, .ref 117), (1, .int p1), (2, .int p2)] [.int w10, .ref 117] am_G0 D1 := by
    refine am_iconst (v := (1 : Int32)) (am_dec tmX12_weigh 17 rfl) (by decide) ?_
    obtain ⟨x12, g11, hf⟩ := am_bd hf
    refine am_callV1 (As := [.int w10, .int (1 : Int32)]) (st := []) hE (am_dec tmX12_weigh 18 rfl) ok_X12_bad rfl lm_X12_191 in_X12_bad se_X12_bad sh_117 cf12 (c_X12_bad hE g11) rfl (by decide) (Nat.le_of_ble_eq_true rfl) (Nat.zero_le _) (Nat.zero_le _) rfl ?_
    refine am_if_eq (tgt := 40) (am_dec tmX12_weigh 19 rfl) (by decide) (fun c13 => ?_) (fun c13 => ?_)
    · rw [if_pos c13] at hf
      refine am_aload_n (am_dec tmX12_weigh 22 rfl) rfl rfl ?_
      refine am_getR (j := 28) hE (am_dec tmX12_weigh 23 rfl) sh_117 cf12 (by decide) rfl lf_X12_55 rf_117_28 ?_
      refine am_iload_n (am_dec tmX12_weigh 24 rfl) rfl rfl ?_
      obtain ⟨x14, g15, hf⟩ := am_bd hf
      refine am_iald2 hE (am_dec tmX12_weigh 25 rfl) sh_202 g15 ?_
      refine am_istore_n (lv' := [(0, .ref 117), (1, .int p1), (2, .int p2), (3, .int x14)]) (am_dec tmX12_weigh 26 rfl) rfl (by decide) rfl ?_
      refine am_aload_n (am_dec tmX12_weigh 27 rfl) rfl rfl ?_
      refine am_getR (j := 28) hE (am_dec tmX12_weigh 28 rfl) sh_117 cf12 (by decide) rfl lf_X12_55 rf_117_28 ?_
      refine am_iload_n (am_dec tmX12_weigh 29 rfl) rfl rfl ?_
      refine am_iload_n (am_dec tmX12_weigh 30 rfl) rfl rfl ?_
      obtain ⟨D16, g17, hf⟩ := am_bd hf
      refine am_iast2 hE (am_dec tmX12_weigh 31 rfl) sh_202 g17 ?_
      refine am_iload_n (am_dec tmX12_weigh 32 rfl) rfl rfl ?_
      have hf := Option.some.inj hf
      subst hf
      exact am_iret (am_dec tmX12_weigh 33 rfl) rfl (Nat.zero_le _) (Nat.zero_le _)
    · rw [if_neg c13] at hf
      refine am_iconst (v := (0 : Int32)) (am_dec tmX12_weigh 20 rfl) (by decide) ?_
      have hf := Option.some.inj hf
      subst hf
      exact am_iret (am_dec tmX12_weigh 21 rfl) rfl (Nat.zero_le _) (Nat.zero_le _)
  replace hf := g18
  refine am_if_eq (tgt := 26) (am_dec tmX12_weigh 8 rfl) (by decide) (fun c5 => ?_) (fun c5 => ?_)
  · rw [if_pos c5] at hf
    refine am_iconst (v := (1 : Int32)) (am_dec tmX12_weigh 14 rfl) (by decide) ?_
    refine am_goto (tgt := 31) (am_dec tmX12_weigh 15 rfl) (by decide) ?_
    have hf := Option.some.inj hf
    subst hf
    exact am_pick [0, 1, 2] rfl key6
  · rw [if_neg c5] at hf
    refine am_iload_n (am_dec tmX12_weigh 9 rfl) rfl rfl ?_
    refine am_iconst (v := (0 : Int32)) (am_dec tmX12_weigh 10 rfl) (by decide) ?_
    refine am_sipush (v := (999 : Int32)) (am_dec tmX12_weigh 11 rfl) (by decide) ?_
    obtain ⟨x8, g7, hf⟩ := am_bd hf
    refine am_callS1 (As := [.int p2, .int (0 : Int32), .int (999 : Int32)]) (st := [.ref 117]) (am_dec tmX12_weigh 12 rfl) ok_X12_in rfl lm_X12_144 st_X12_in (c_X12_in hE g7) rfl (by decide) (Nat.le_of_ble_eq_true rfl) (Nat.zero_le _) (Nat.zero_le _) rfl ?_
    refine am_if_ne (tgt := 30) (am_dec tmX12_weigh 13 rfl) (by decide) (fun c9 => ?_) (fun c9 => ?_)
    · rw [if_neg c9] at hf
      refine am_iconst (v := (0 : Int32)) (am_dec tmX12_weigh 16 rfl) (by decide) ?_
      have hf := Option.some.inj hf
      subst hf
      exact am_pick [0, 1, 2] rfl key6
    · rw [if_pos c9] at hf
      refine am_iconst (v := (1 : Int32)) (am_dec tmX12_weigh 14 rfl) (by decide) ?_
      refine am_goto (tgt := 31) (am_dec tmX12_weigh 15 rfl) (by decide) ?_
      have hf := Option.some.inj hf
      subst hf
      exact am_pick [0, 1, 2] rfl key6
def f_X12_way (p1 : Int32) (p2 : Int32) (p3 : Int32) (D : am_D) : Option ((Int32 × am_D)) :=
    (some (am_wI D 117 0 (0 : Int32))).bind fun D1 =>
    (f_X12_arePieces p1 p2 p3).bind fun x4 =>
    (if x4 = 0 then
    some ((1 : Int32))
    else
    some ((0 : Int32))).bind fun w7 =>
    (f_X12_bad w7 (1 : Int32) D1).bind fun x9 =>
    if x9.1 = 0 then
    if (x9.2.1 117 20) = (4 : Int32) then
    some ((-1 : Int32), x9.2)
    else
    (am_gA 4 (x9.2.1 117 20)).bind fun j12 =>
    (am_pI x9.2 (206 + j12) 3 (0 : Int32) p1).bind fun D14 =>
    (am_gA 4 (D14.1 117 20)).bind fun j16 =>
    (am_pI D14 (206 + j16) 3 (1 : Int32) p2).bind fun D18 =>
    (am_gA 4 (D18.1 117 20)).bind fun j20 =>
    (am_pI D18 (206 + j20) 3 (2 : Int32) p3).bind fun D22 =>
    (some (am_wI D22 117 20 ((D22.1 117 20) + (1 : Int32)))).bind fun D24 =>
    some (((D24.1 117 20) - (1 : Int32)), D24)
    else
    some ((0 : Int32), x9.2)
set_option maxRecDepth 100000 in
set_option maxHeartbeats 4000000 in
theorem c_X12_way {E : am_E} (hE : am_EH E) {p1 : Int32} {p2 : Int32} {p3 : Int32} {D : am_D} {r : (Int32 × am_D)}  (hf : f_X12_way p1 p2 p3 D = some r) : am_C E mX12_way 3 0 0 [.ref 117, .int p1, .int p2, .int p3] am_G0 D (.inl (some (.int r.1))) am_G0 r.2 := by
  refine am_C_of (by decide +kernel) (Nat.le_of_ble_eq_true rfl) ?_
  change am_S E mX12_way 3 0 0 (.inl (some (.int r.1))) am_G0 r.2 0 0 0 [(0, .ref 117), (1, .int p1), (2, .int p2), (3, .int p3)] [] am_G0 D
  unfold f_X12_way at hf
  refine am_aload_n (am_dec tmX12_way 0 rfl) rfl rfl ?_
  refine am_iconst (v := (0 : Int32)) (am_dec tmX12_way 1 rfl) (by decide) ?_
  obtain ⟨D1, g2, hf⟩ := am_bd hf
  refine am_putI2 (j := 0) hE (am_dec tmX12_way 2 rfl) sh_117 cf12 (by decide) rfl lf_X12_110 rfl rfl rfl g2 ?_
  refine am_aload_n (am_dec tmX12_way 3 rfl) rfl rfl ?_
  refine am_iload_n (am_dec tmX12_way 4 rfl) rfl rfl ?_
  refine am_iload_n (am_dec tmX12_way 5 rfl) rfl rfl ?_
  refine am_iload_n (am_dec tmX12_way 6 rfl) rfl rfl ?_
  obtain ⟨x4, g3, hf⟩ := am_bd hf
  refine am_callS1 (As := [.int p1, .int p2, .int p3]) (st := [.ref 117]) (am_dec tmX12_way 7 rfl) ok_X12_arePieces rfl lm_X12_278 st_X12_arePieces (c_X12_arePieces hE g3) rfl (by decide) (Nat.le_of_ble_eq_true rfl) (Nat.zero_le _) (Nat.zero_le _) rfl ?_
  obtain ⟨w7, g26, hf⟩ := am_bd hf
  have key6 : am_S E mX12_way 3 0 0 (.inl (some (.int r.1))) am_G0 r.2 0 0 20 [(0, .ref 117), (1, .int p1), (2, .int p2), (3, .int p3)] [.int w7, .ref 117] am_G0 D1 := by
    refine am_iconst (v := (1 : Int32)) (am_dec tmX12_way 12 rfl) (by decide) ?_
    obtain ⟨x9, g8, hf⟩ := am_bd hf
    refine am_callV1 (As := [.int w7, .int (1 : Int32)]) (st := []) hE (am_dec tmX12_way 13 rfl) ok_X12_bad rfl lm_X12_191 in_X12_bad se_X12_bad sh_117 cf12 (c_X12_bad hE g8) rfl (by decide) (Nat.le_of_ble_eq_true rfl) (Nat.zero_le _) (Nat.zero_le _) rfl ?_
    refine am_if_eq (tgt := 29) (am_dec tmX12_way 14 rfl) (by decide) (fun c10 => ?_) (fun c10 => ?_)
    · rw [if_pos c10] at hf
      refine am_aload_n (am_dec tmX12_way 17 rfl) rfl rfl ?_
      refine am_getI (j := 20) hE (am_dec tmX12_way 18 rfl) sh_117 cf12 (by decide) rfl lf_X12_330 ?_
      refine am_iconst (v := (4 : Int32)) (am_dec tmX12_way 19 rfl) (by decide) ?_
      refine am_icmp_ne (tgt := 39) (am_dec tmX12_way 20 rfl) (by decide) (fun c11 => ?_) (fun c11 => ?_)
      · rw [if_neg c11] at hf
        refine am_aload_n (am_dec tmX12_way 23 rfl) rfl rfl ?_
        refine am_getR (j := 31) hE (am_dec tmX12_way 24 rfl) sh_117 cf12 (by decide) rfl lf_X12_64 rf_117_31 ?_
        refine am_aload_n (am_dec tmX12_way 25 rfl) rfl rfl ?_
        refine am_getI (j := 20) hE (am_dec tmX12_way 26 rfl) sh_117 cf12 (by decide) rfl lf_X12_330 ?_
        obtain ⟨j12, g13, hf⟩ := am_bd hf
        have hj_j12 := (am_gA_lt g13).1
        refine am_aald2 (t := 6) hE (am_dec tmX12_way 27 rfl) sh_205 (by decide) rfl rfl g13 (rr_205 hj_j12) ?_
        refine am_iconst (v := (0 : Int32)) (am_dec tmX12_way 28 rfl) (by decide) ?_
        refine am_iload_n (am_dec tmX12_way 29 rfl) rfl rfl ?_
        obtain ⟨D14, g15, hf⟩ := am_bd hf
        refine am_iast2 hE (am_dec tmX12_way 30 rfl) (sa_205_0 hj_j12) g15 ?_
        refine am_aload_n (am_dec tmX12_way 31 rfl) rfl rfl ?_
        refine am_getR (j := 31) hE (am_dec tmX12_way 32 rfl) sh_117 cf12 (by decide) rfl lf_X12_64 rf_117_31 ?_
        refine am_aload_n (am_dec tmX12_way 33 rfl) rfl rfl ?_
        refine am_getI (j := 20) hE (am_dec tmX12_way 34 rfl) sh_117 cf12 (by decide) rfl lf_X12_330 ?_
        obtain ⟨j16, g17, hf⟩ := am_bd hf
        have hj_j16 := (am_gA_lt g17).1
        refine am_aald2 (t := 6) hE (am_dec tmX12_way 35 rfl) sh_205 (by decide) rfl rfl g17 (rr_205 hj_j16) ?_
        refine am_iconst (v := (1 : Int32)) (am_dec tmX12_way 36 rfl) (by decide) ?_
        refine am_iload_n (am_dec tmX12_way 37 rfl) rfl rfl ?_
        obtain ⟨D18, g19, hf⟩ := am_bd hf
        refine am_iast2 hE (am_dec tmX12_way 38 rfl) (sa_205_0 hj_j16) g19 ?_
        refine am_aload_n (am_dec tmX12_way 39 rfl) rfl rfl ?_
        refine am_getR (j := 31) hE (am_dec tmX12_way 40 rfl) sh_117 cf12 (by decide) rfl lf_X12_64 rf_117_31 ?_
        refine am_aload_n (am_dec tmX12_way 41 rfl) rfl rfl ?_
        refine am_getI (j := 20) hE (am_dec tmX12_way 42 rfl) sh_117 cf12 (by decide) rfl lf_X12_330 ?_
        obtain ⟨j20, g21, hf⟩ := am_bd hf
        have hj_j20 := (am_gA_lt g21).1
        refine am_aald2 (t := 6) hE (am_dec tmX12_way 43 rfl) sh_205 (by decide) rfl rfl g21 (rr_205 hj_j20) ?_
        refine am_iconst (v := (2 : Int32)) (am_dec tmX12_way 44 rfl) (by decide) ?_
        refine am_iload_n (am_dec tmX12_way 45 rfl) rfl rfl ?_
        obtain ⟨D22, g23, hf⟩ := am_bd hf
        refine am_iast2 hE (am_dec tmX12_way 46 rfl) (sa_205_0 hj_j20) g23 ?_
        refine am_aload_n (am_dec tmX12_way 47 rfl) rfl rfl ?_
        refine am_dup (am_dec tmX12_way 48 rfl) rfl ?_
        refine am_getI (j := 20) hE (am_dec tmX12_way 49 rfl) sh_117 cf12 (by decide) rfl lf_X12_330 ?_
        refine am_iconst (v := (1 : Int32)) (am_dec tmX12_way 50 rfl) (by decide) ?_
        refine am_iadd (am_dec tmX12_way 51 rfl) ?_
        obtain ⟨D24, g25, hf⟩ := am_bd hf
        refine am_putI2 (j := 20) hE (am_dec tmX12_way 52 rfl) sh_117 cf12 (by decide) rfl lf_X12_330 rfl rfl rfl g25 ?_
        refine am_aload_n (am_dec tmX12_way 53 rfl) rfl rfl ?_
        refine am_getI (j := 20) hE (am_dec tmX12_way 54 rfl) sh_117 cf12 (by decide) rfl lf_X12_330 ?_
        refine am_iconst (v := (1 : Int32)) (am_dec tmX12_way 55 rfl) (by decide) ?_
        refine am_isub (am_dec tmX12_way 56 rfl) ?_
        have hf := Option.some.inj hf
        subst hf
        exact am_iret (am_dec tmX12_way 57 rfl) rfl (Nat.zero_le _) (Nat.zero_le _)
      · rw [if_pos c11] at hf
        refine am_iconst (v := (-1 : Int32)) (am_dec tmX12_way 21 rfl) (by decide) ?_
        have hf := Option.some.inj hf
        subst hf
        exact am_iret (am_dec tmX12_way 22 rfl) rfl (Nat.zero_le _) (Nat.zero_le _)
    · rw [if_neg c10] at hf
      refine am_iconst (v := (0 : Int32)) (am_dec tmX12_way 15 rfl) (by decide) ?_
      have hf := Option.some.inj hf
      subst hf
      exact am_iret (am_dec tmX12_way 16 rfl) rfl (Nat.zero_le _) (Nat.zero_le _)
  replace hf := g26
  refine am_if_ne (tgt := 19) (am_dec tmX12_way 8 rfl) (by decide) (fun c5 => ?_) (fun c5 => ?_)
  · rw [if_neg c5] at hf
    refine am_iconst (v := (0 : Int32)) (am_dec tmX12_way 11 rfl) (by decide) ?_
    have hf := Option.some.inj hf
    subst hf
    exact am_pick [0, 1, 2, 3] rfl key6
  · rw [if_pos c5] at hf
    refine am_iconst (v := (1 : Int32)) (am_dec tmX12_way 9 rfl) (by decide) ?_
    refine am_goto (tgt := 20) (am_dec tmX12_way 10 rfl) (by decide) ?_
    have hf := Option.some.inj hf
    subst hf
    exact am_pick [0, 1, 2, 3] rfl key6
def f_X12_isSomeShort_L2 (q1 : Int32) (q2 : Int32) (D : am_D) : Nat → Int32 → Option (Unit ⊕ Unit)
  | 0, _ => none
  | n + 1, v3 =>
    if (D.1 117 20) ≤ v3 then
    some (.inr ())
    else
    (am_gI D 139 5 q1).bind fun x2 =>
    (am_gA 4 v3).bind fun j4 =>
    (am_gI D (206 + j4) 3 (0 : Int32)).bind fun x6 =>
    if x2 < x6 then
    some (.inl ())
    else
    (am_gI D 139 5 q1).bind fun x9 =>
    (f_X12_lastOf q2 D).bind fun x12 =>
    if x12 ≤ x9 then
    f_X12_isSomeShort_L2 q1 q2 D n (v3 + (1 : Int32))
    else
    some (.inl ())
def f_X12_isSomeShort (p1 : Int32) (p2 : Int32) (D : am_D) : Option (Int32) :=
    am_b2 (f_X12_isSomeShort_L2 p1 p2 D am_fu (0 : Int32))
    (fun e14 =>
    some (1 : Int32))
    (fun e15 =>
    some (0 : Int32))
set_option maxRecDepth 100000 in
set_option maxHeartbeats 4000000 in
theorem l_X12_isSomeShort_L2 {E : am_E} (hE : am_EH E) {d mc ms : Nat} {o : am_O} {G2 : am_G} {D2 : am_D} (hdp : 2 ≤ d) {q1 : Int32} {q2 : Int32} {D : am_D}  : ∀ (n : Nat) (v3 : Int32) (ex0 : Unit ⊕ Unit), f_X12_isSomeShort_L2 q1 q2 D n v3 = some ex0 → (∀ ex : Unit, ex0 = .inl ex → am_S E mX12_isSomeShort d mc ms o G2 D2 0 0 41 [] [] am_G0 D) → (∀ ex : Unit, ex0 = .inr ex → am_S E mX12_isSomeShort d mc ms o G2 D2 0 0 49 [] [] am_G0 D) → am_S E mX12_isSomeShort d mc ms o G2 D2 0 0 2 [(0, .ref 117), (1, .int q1), (2, .int q2), (3, .int v3)] [] am_G0 D
  | 0, _, _, hf, _, _ => by
    unfold f_X12_isSomeShort_L2 at hf
    cases hf
  | n + 1, v3, ex0, hf, hk0, hk1 => by
    unfold f_X12_isSomeShort_L2 at hf
    refine am_iload_n (am_dec tmX12_isSomeShort 2 rfl) rfl rfl ?_
    refine am_aload_n (am_dec tmX12_isSomeShort 3 rfl) rfl rfl ?_
    refine am_getI (j := 20) hE (am_dec tmX12_isSomeShort 4 rfl) sh_117 cf12 (by decide) rfl lf_X12_330 ?_
    refine am_icmp_ge (tgt := 49) (am_dec tmX12_isSomeShort 5 rfl) (by decide) (fun c1 => ?_) (fun c1 => ?_)
    · rw [if_pos c1] at hf
      have hf := Option.some.inj hf
      subst hf
      exact am_pick [] rfl (hk1 _ rfl)
    · rw [if_neg c1] at hf
      refine am_aload_n (am_dec tmX12_isSomeShort 6 rfl) rfl rfl ?_
      refine am_getR (j := 25) hE (am_dec tmX12_isSomeShort 7 rfl) sh_117 cf12 (by decide) rfl lf_X12_46 rf_117_25 ?_
      refine am_iload_n (am_dec tmX12_isSomeShort 8 rfl) rfl rfl ?_
      obtain ⟨x2, g3, hf⟩ := am_bd hf
      refine am_iald2 hE (am_dec tmX12_isSomeShort 9 rfl) sh_139 g3 ?_
      refine am_aload_n (am_dec tmX12_isSomeShort 10 rfl) rfl rfl ?_
      refine am_getR (j := 31) hE (am_dec tmX12_isSomeShort 11 rfl) sh_117 cf12 (by decide) rfl lf_X12_64 rf_117_31 ?_
      refine am_iload_n (am_dec tmX12_isSomeShort 12 rfl) rfl rfl ?_
      obtain ⟨j4, g5, hf⟩ := am_bd hf
      have hj_j4 := (am_gA_lt g5).1
      refine am_aald2 (t := 6) hE (am_dec tmX12_isSomeShort 13 rfl) sh_205 (by decide) rfl rfl g5 (rr_205 hj_j4) ?_
      refine am_iconst (v := (0 : Int32)) (am_dec tmX12_isSomeShort 14 rfl) (by decide) ?_
      obtain ⟨x6, g7, hf⟩ := am_bd hf
      refine am_iald2 hE (am_dec tmX12_isSomeShort 15 rfl) (sa_205_0 hj_j4) g7 ?_
      refine am_icmp_lt (tgt := 41) (am_dec tmX12_isSomeShort 16 rfl) (by decide) (fun c8 => ?_) (fun c8 => ?_)
      · rw [if_pos c8] at hf
        have hf := Option.some.inj hf
        subst hf
        exact am_pick [] rfl (hk0 _ rfl)
      · rw [if_neg c8] at hf
        refine am_aload_n (am_dec tmX12_isSomeShort 17 rfl) rfl rfl ?_
        refine am_getR (j := 25) hE (am_dec tmX12_isSomeShort 18 rfl) sh_117 cf12 (by decide) rfl lf_X12_46 rf_117_25 ?_
        refine am_iload_n (am_dec tmX12_isSomeShort 19 rfl) rfl rfl ?_
        obtain ⟨x9, g10, hf⟩ := am_bd hf
        refine am_iald2 hE (am_dec tmX12_isSomeShort 20 rfl) sh_139 g10 ?_
        refine am_aload_n (am_dec tmX12_isSomeShort 21 rfl) rfl rfl ?_
        refine am_iload_n (am_dec tmX12_isSomeShort 22 rfl) rfl rfl ?_
        obtain ⟨x12, g11, hf⟩ := am_bd hf
        refine am_callV1 (As := [.int q2]) (st := [.int x9]) hE (am_dec tmX12_isSomeShort 23 rfl) ok_X12_lastOf rfl lm_X12_235 in_X12_lastOf se_X12_lastOf sh_117 cf12 (c_X12_lastOf hE g11) rfl (Nat.lt_of_lt_of_le (by decide) hdp) (Nat.le_of_ble_eq_true rfl) (Nat.zero_le _) (Nat.zero_le _) rfl ?_
        refine am_icmp_ge (tgt := 43) (am_dec tmX12_isSomeShort 24 rfl) (by decide) (fun c13 => ?_) (fun c13 => ?_)
        · rw [if_pos c13] at hf
          refine am_iinc (v := (1 : Int32)) (lv' := [(0, .ref 117), (1, .int q1), (2, .int q2), (3, .int (v3 + (1 : Int32)))]) (am_dec tmX12_isSomeShort 27 rfl) rfl (by decide) (by decide) rfl ?_
          refine am_goto (tgt := 2) (am_dec tmX12_isSomeShort 28 rfl) (by decide) ?_
          exact am_pick [0, 1, 2, 3] rfl (l_X12_isSomeShort_L2 hE hdp n (v3 + (1 : Int32)) ex0 hf hk0 hk1)
        · rw [if_neg c13] at hf
          have hf := Option.some.inj hf
          subst hf
          exact am_pick [] rfl (hk0 _ rfl)
set_option maxRecDepth 100000 in
set_option maxHeartbeats 4000000 in
theorem c_X12_isSomeShort {E : am_E} (hE : am_EH E) {p1 : Int32} {p2 : Int32} {D : am_D} {r : Int32}  (hf : f_X12_isSomeShort p1 p2 D = some r) : am_C E mX12_isSomeShort 2 0 0 [.ref 117, .int p1, .int p2] am_G0 D (.inl (some (.int r))) am_G0 D := by
  refine am_C_of (by decide +kernel) (Nat.le_of_ble_eq_true rfl) ?_
  change am_S E mX12_isSomeShort 2 0 0 (.inl (some (.int r))) am_G0 D 0 0 0 [(0, .ref 117), (1, .int p1), (2, .int p2)] [] am_G0 D
  unfold f_X12_isSomeShort at hf
  refine am_iconst (v := (0 : Int32)) (am_dec tmX12_isSomeShort 0 rfl) (by decide) ?_
  refine am_istore_n (lv' := [(0, .ref 117), (1, .int p1), (2, .int p2), (3, .int (0 : Int32))]) (am_dec tmX12_isSomeShort 1 rfl) rfl (by decide) rfl ?_
  rcases am_b2d hf with ⟨e14, g16, hf⟩ | ⟨e15, g16, hf⟩
  · refine am_pick [0, 1, 2, 3] rfl (l_X12_isSomeShort_L2 hE (Nat.le_refl _) am_fu _ _ g16 (fun ex he => ?_) (fun ex he => by cases he))
    cases he
    refine am_iconst (v := (1 : Int32)) (am_dec tmX12_isSomeShort 25 rfl) (by decide) ?_
    have hf := Option.some.inj hf
    subst hf
    exact am_zret (am_dec tmX12_isSomeShort 26 rfl) rfl am_z1 (Nat.zero_le _) (Nat.zero_le _)
  · refine am_pick [0, 1, 2, 3] rfl (l_X12_isSomeShort_L2 hE (Nat.le_refl _) am_fu _ _ g16 (fun ex he => by cases he) (fun ex he => ?_))
    cases he
    refine am_iconst (v := (0 : Int32)) (am_dec tmX12_isSomeShort 29 rfl) (by decide) ?_
    have hf := Option.some.inj hf
    subst hf
    exact am_zret (am_dec tmX12_isSomeShort 30 rfl) rfl am_z0 (Nat.zero_le _) (Nat.zero_le _)
theorem z_X12_isSomeShort {p1 : Int32} {p2 : Int32} {D : am_D} {r : Int32} (hf : f_X12_isSomeShort p1 p2 D = some r) : narrow .boolean (.int r) = .int r := by
  unfold f_X12_isSomeShort at hf
  rcases am_b2d hf with ⟨e14, g16, hf⟩ | ⟨e15, g16, hf⟩
  · have hf := Option.some.inj hf
    subst hf
    exact am_z1
  · have hf := Option.some.inj hf
    subst hf
    exact am_z0
def f_X12_unlikeOf_L4 (q1 : Int32) (D : am_D) : Nat → Int32 → Int32 → Option (Int32)
  | 0, _, _ => none
  | n + 1, v2, v3 =>
    if (D.1 117 39) ≤ v3 then
    some (v2)
    else
    (am_gA 1200 v3).bind fun j2 =>
    (am_gI D (225 + j2) 3 (0 : Int32)).bind fun x4 =>
    (am_gI D 223 26 (((2 : Int32) * q1) + (1 : Int32))).bind fun x6 =>
    (if x4 < x6 then
    some ((0 : Int32))
    else
    (am_gA 1200 v3).bind fun j10 =>
    (am_gI D (225 + j10) 3 (0 : Int32)).bind fun x12 =>
    (am_gI D 223 26 (((2 : Int32) * q1) + (3 : Int32))).bind fun x14 =>
    if x14 ≤ x12 then
    some ((0 : Int32))
    else
    (am_gA 1200 v3).bind fun j17 =>
    (am_gI D (225 + j17) 3 (2 : Int32)).bind fun x19 =>
    some (x19)).bind fun w21 =>
    f_X12_unlikeOf_L4 q1 D n (v2 + w21) (v3 + (1 : Int32))
def f_X12_unlikeOf (p1 : Int32) (D : am_D) : Option (Int32) :=
    (f_X12_unlikeOf_L4 p1 D am_fu (0 : Int32) (0 : Int32)).bind fun e23 =>
    some e23
set_option maxRecDepth 100000 in
set_option maxHeartbeats 4000000 in
theorem l_X12_unlikeOf_L4 {E : am_E} (hE : am_EH E) {d mc ms : Nat} {o : am_O} {G2 : am_G} {D2 : am_D} (hdp : 1 ≤ d) {q1 : Int32} {D : am_D}  : ∀ (n : Nat) (v2 : Int32) (v3 : Int32) (ex0 : Int32), f_X12_unlikeOf_L4 q1 D n v2 v3 = some ex0 → (∀ ex : Int32, ex0 = ex → am_S E mX12_unlikeOf d mc ms o G2 D2 0 0 75 [(2, .int ex)] [] am_G0 D) → am_S E mX12_unlikeOf d mc ms o G2 D2 0 0 4 [(0, .ref 117), (1, .int q1), (2, .int v2), (3, .int v3)] [] am_G0 D
  | 0, _, _, _, hf, _ => by
    unfold f_X12_unlikeOf_L4 at hf
    cases hf
  | n + 1, v2, v3, ex0, hf, hk0 => by
    unfold f_X12_unlikeOf_L4 at hf
    refine am_iload_n (am_dec tmX12_unlikeOf 4 rfl) rfl rfl ?_
    refine am_aload_n (am_dec tmX12_unlikeOf 5 rfl) rfl rfl ?_
    refine am_getI (j := 39) hE (am_dec tmX12_unlikeOf 6 rfl) sh_117 cf12 (by decide) rfl lf_X12_250 ?_
    refine am_icmp_ge (tgt := 75) (am_dec tmX12_unlikeOf 7 rfl) (by decide) (fun c1 => ?_) (fun c1 => ?_)
    · rw [if_pos c1] at hf
      have hf := Option.some.inj hf
      subst hf
      exact am_pick [2] rfl (hk0 _ rfl)
    · rw [if_neg c1] at hf
      refine am_iload_n (am_dec tmX12_unlikeOf 8 rfl) rfl rfl ?_
      refine am_aload_n (am_dec tmX12_unlikeOf 9 rfl) rfl rfl ?_
      refine am_getR (j := 41) hE (am_dec tmX12_unlikeOf 10 rfl) sh_117 cf12 (by decide) rfl lf_X12_79 rf_117_41 ?_
      refine am_iload_n (am_dec tmX12_unlikeOf 11 rfl) rfl rfl ?_
      obtain ⟨j2, g3, hf⟩ := am_bd hf
      have hj_j2 := (am_gA_lt g3).1
      refine am_aald2 (t := 6) hE (am_dec tmX12_unlikeOf 12 rfl) sh_224 (by decide) rfl rfl g3 (rr_224 hj_j2) ?_
      refine am_iconst (v := (0 : Int32)) (am_dec tmX12_unlikeOf 13 rfl) (by decide) ?_
      obtain ⟨x4, g5, hf⟩ := am_bd hf
      refine am_iald2 hE (am_dec tmX12_unlikeOf 14 rfl) (sa_224_0 hj_j2) g5 ?_
      refine am_aload_n (am_dec tmX12_unlikeOf 15 rfl) rfl rfl ?_
      refine am_getR (j := 35) hE (am_dec tmX12_unlikeOf 16 rfl) sh_117 cf12 (by decide) rfl lf_X12_76 rf_117_35 ?_
      refine am_iconst (v := (2 : Int32)) (am_dec tmX12_unlikeOf 17 rfl) (by decide) ?_
      refine am_iload_n (am_dec tmX12_unlikeOf 18 rfl) rfl rfl ?_
      refine am_imul (am_dec tmX12_unlikeOf 19 rfl) ?_
      refine am_iconst (v := (1 : Int32)) (am_dec tmX12_unlikeOf 20 rfl) (by decide) ?_
      refine am_iadd (am_dec tmX12_unlikeOf 21 rfl) ?_
      obtain ⟨x6, g7, hf⟩ := am_bd hf
      refine am_iald2 hE (am_dec tmX12_unlikeOf 22 rfl) sh_223 g7 ?_
      obtain ⟨w21, g22, hf⟩ := am_bd hf
      have key9 : am_S E mX12_unlikeOf d mc ms o G2 D2 0 0 67 [(0, .ref 117), (1, .int q1), (3, .int v3)] [.int w21, .int v2] am_G0 D := by
        refine am_iadd (am_dec tmX12_unlikeOf 47 rfl) ?_
        refine am_istore_n (lv' := [(0, .ref 117), (1, .int q1), (2, .int (v2 + w21)), (3, .int v3)]) (am_dec tmX12_unlikeOf 48 rfl) rfl (by decide) rfl ?_
        refine am_iinc (v := (1 : Int32)) (lv' := [(0, .ref 117), (1, .int q1), (2, .int (v2 + w21)), (3, .int (v3 + (1 : Int32)))]) (am_dec tmX12_unlikeOf 49 rfl) rfl (by decide) (by decide) rfl ?_
        refine am_goto (tgt := 4) (am_dec tmX12_unlikeOf 50 rfl) (by decide) ?_
        exact am_pick [0, 1, 2, 3] rfl (l_X12_unlikeOf_L4 hE hdp n (v2 + w21) (v3 + (1 : Int32)) ex0 hf hk0)
      replace hf := g22
      refine am_icmp_lt (tgt := 66) (am_dec tmX12_unlikeOf 23 rfl) (by decide) (fun c8 => ?_) (fun c8 => ?_)
      · rw [if_pos c8] at hf
        refine am_iconst (v := (0 : Int32)) (am_dec tmX12_unlikeOf 46 rfl) (by decide) ?_
        have hf := Option.some.inj hf
        subst hf
        exact am_pick [0, 1, 3] rfl key9
      · rw [if_neg c8] at hf
        refine am_aload_n (am_dec tmX12_unlikeOf 24 rfl) rfl rfl ?_
        refine am_getR (j := 41) hE (am_dec tmX12_unlikeOf 25 rfl) sh_117 cf12 (by decide) rfl lf_X12_79 rf_117_41 ?_
        refine am_iload_n (am_dec tmX12_unlikeOf 26 rfl) rfl rfl ?_
        obtain ⟨j10, g11, hf⟩ := am_bd hf
        have hj_j10 := (am_gA_lt g11).1
        refine am_aald2 (t := 6) hE (am_dec tmX12_unlikeOf 27 rfl) sh_224 (by decide) rfl rfl g11 (rr_224 hj_j10) ?_
        refine am_iconst (v := (0 : Int32)) (am_dec tmX12_unlikeOf 28 rfl) (by decide) ?_
        obtain ⟨x12, g13, hf⟩ := am_bd hf
        refine am_iald2 hE (am_dec tmX12_unlikeOf 29 rfl) (sa_224_0 hj_j10) g13 ?_
        refine am_aload_n (am_dec tmX12_unlikeOf 30 rfl) rfl rfl ?_
        refine am_getR (j := 35) hE (am_dec tmX12_unlikeOf 31 rfl) sh_117 cf12 (by decide) rfl lf_X12_76 rf_117_35 ?_
        refine am_iconst (v := (2 : Int32)) (am_dec tmX12_unlikeOf 32 rfl) (by decide) ?_
        refine am_iload_n (am_dec tmX12_unlikeOf 33 rfl) rfl rfl ?_
        refine am_imul (am_dec tmX12_unlikeOf 34 rfl) ?_
        refine am_iconst (v := (3 : Int32)) (am_dec tmX12_unlikeOf 35 rfl) (by decide) ?_
        refine am_iadd (am_dec tmX12_unlikeOf 36 rfl) ?_
        obtain ⟨x14, g15, hf⟩ := am_bd hf
        refine am_iald2 hE (am_dec tmX12_unlikeOf 37 rfl) sh_223 g15 ?_
        refine am_icmp_ge (tgt := 66) (am_dec tmX12_unlikeOf 38 rfl) (by decide) (fun c16 => ?_) (fun c16 => ?_)
        · rw [if_pos c16] at hf
          refine am_iconst (v := (0 : Int32)) (am_dec tmX12_unlikeOf 46 rfl) (by decide) ?_
          have hf := Option.some.inj hf
          subst hf
          exact am_pick [0, 1, 3] rfl key9
        · rw [if_neg c16] at hf
          refine am_aload_n (am_dec tmX12_unlikeOf 39 rfl) rfl rfl ?_
          refine am_getR (j := 41) hE (am_dec tmX12_unlikeOf 40 rfl) sh_117 cf12 (by decide) rfl lf_X12_79 rf_117_41 ?_
          refine am_iload_n (am_dec tmX12_unlikeOf 41 rfl) rfl rfl ?_
          obtain ⟨j17, g18, hf⟩ := am_bd hf
          have hj_j17 := (am_gA_lt g18).1
          refine am_aald2 (t := 6) hE (am_dec tmX12_unlikeOf 42 rfl) sh_224 (by decide) rfl rfl g18 (rr_224 hj_j17) ?_
          refine am_iconst (v := (2 : Int32)) (am_dec tmX12_unlikeOf 43 rfl) (by decide) ?_
          obtain ⟨x19, g20, hf⟩ := am_bd hf
          refine am_iald2 hE (am_dec tmX12_unlikeOf 44 rfl) (sa_224_0 hj_j17) g20 ?_
          refine am_goto (tgt := 67) (am_dec tmX12_unlikeOf 45 rfl) (by decide) ?_
          have hf := Option.some.inj hf
          subst hf
          exact am_pick [0, 1, 3] rfl key9
set_option maxRecDepth 100000 in
set_option maxHeartbeats 4000000 in
theorem c_X12_unlikeOf {E : am_E} (hE : am_EH E) {p1 : Int32} {D : am_D} {r : Int32}  (hf : f_X12_unlikeOf p1 D = some r) : am_C E mX12_unlikeOf 1 0 0 [.ref 117, .int p1] am_G0 D (.inl (some (.int r))) am_G0 D := by
  refine am_C_of (by decide +kernel) (Nat.le_of_ble_eq_true rfl) ?_
  change am_S E mX12_unlikeOf 1 0 0 (.inl (some (.int r))) am_G0 D 0 0 0 [(0, .ref 117), (1, .int p1)] [] am_G0 D
  unfold f_X12_unlikeOf at hf
  refine am_iconst (v := (0 : Int32)) (am_dec tmX12_unlikeOf 0 rfl) (by decide) ?_
  refine am_istore_n (lv' := [(0, .ref 117), (1, .int p1), (2, .int (0 : Int32))]) (am_dec tmX12_unlikeOf 1 rfl) rfl (by decide) rfl ?_
  refine am_iconst (v := (0 : Int32)) (am_dec tmX12_unlikeOf 2 rfl) (by decide) ?_
  refine am_istore_n (lv' := [(0, .ref 117), (1, .int p1), (2, .int (0 : Int32)), (3, .int (0 : Int32))]) (am_dec tmX12_unlikeOf 3 rfl) rfl (by decide) rfl ?_
  obtain ⟨e23, g24, hf⟩ := am_bd hf
  refine am_pick [0, 1, 2, 3] rfl (l_X12_unlikeOf_L4 hE (Nat.le_refl _) am_fu _ _ _ g24 (fun ex he => ?_))
  subst he
  refine am_iload_n (am_dec tmX12_unlikeOf 51 rfl) rfl rfl ?_
  have hf := Option.some.inj hf
  subst hf
  exact am_iret (am_dec tmX12_unlikeOf 52 rfl) rfl (Nat.zero_le _) (Nat.zero_le _)
def f_X12_bestWay_L31 (q1 : Int32) (q2 : Int32) (q3 : Int32) (q4 : Int32) (q5 : Int32) (q6 : Int32) : Nat → Int32 → Int32 → Int32 → am_D → Option (Int32 × am_D)
  | 0, _, _, _, _ => none
  | n + 1, v7, v8, v9, D =>
    if (D.1 117 20) ≤ v9 then
    some (v7, D)
    else
    (am_gA 4 v9).bind fun j4 =>
    (am_gI D (206 + j4) 3 (0 : Int32)).bind fun x6 =>
    (some (am_wI D 117 14 x6)).bind fun D8 =>
    (am_gA 4 v9).bind fun j10 =>
    (am_gI D8 (206 + j10) 3 (1 : Int32)).bind fun x12 =>
    (some (am_wI D8 117 15 x12)).bind fun D14 =>
    (am_gA 4 v9).bind fun j16 =>
    (am_gI D14 (206 + j16) 3 (2 : Int32)).bind fun x18 =>
    (some (am_wI D14 117 16 x18)).bind fun D20 =>
    (f_X12_drawsBoth q1 q2 D20).bind fun x23 =>
    (if q3 = (-1 : Int32) then
    (f_X12_counted x23).bind fun x29 =>
    some (x29.1, x29.2)
    else
    (f_X12_unlikeOf q3 x23).bind fun x27 =>
    some (x27, x23)).bind fun w30 =>
    (if v7 = (-1 : Int32) then
    some (v9, w30.1)
    else
    if w30.1 < v8 then
    some (v9, w30.1)
    else
    some (v7, v8)).bind fun w34 =>
    f_X12_bestWay_L31 q1 q2 q3 q4 q5 q6 n w34.1 w34.2 (v9 + (1 : Int32)) w30.2
def f_X12_bestWay (p1 : Int32) (p2 : Int32) (p3 : Int32) (D : am_D) : Option ((Int32 × am_D)) :=
    (f_X12_lays D).bind fun x2 =>
    (f_X12_bestWay_L31 p1 p2 p3 (D.1 117 14) (D.1 117 15) (D.1 117 16) am_fu (-1 : Int32) (0 : Int32) (0 : Int32) x2).bind fun e37 =>
    (f_X12_laysBack e37.2).bind fun x39 =>
    (some (am_wI x39 117 14 (D.1 117 14))).bind fun D40 =>
    (some (am_wI D40 117 15 (D.1 117 15))).bind fun D42 =>
    (some (am_wI D42 117 16 (D.1 117 16))).bind fun D44 =>
    some (e37.1, D44)
set_option maxRecDepth 100000 in
set_option maxHeartbeats 4000000 in
theorem l_X12_bestWay_L31 {E : am_E} (hE : am_EH E) {d mc ms : Nat} {o : am_O} {G2 : am_G} {D2 : am_D} (hdp : 7 ≤ d) {q1 : Int32} {q2 : Int32} {q3 : Int32} {q4 : Int32} {q5 : Int32} {q6 : Int32}  : ∀ (n : Nat) (v7 : Int32) (v8 : Int32) (v9 : Int32) (D : am_D) (ex0 : Int32 × am_D), f_X12_bestWay_L31 q1 q2 q3 q4 q5 q6 n v7 v8 v9 D = some ex0 → (∀ ex : Int32 × am_D, ex0 = ex → am_S E mX12_bestWay d mc ms o G2 D2 0 0 134 [(0, .ref 117), (4, .int q4), (5, .int q5), (6, .int q6), (7, .int ex.1)] [] am_G0 ex.2) → am_S E mX12_bestWay d mc ms o G2 D2 0 0 31 [(0, .ref 117), (1, .int q1), (2, .int q2), (3, .int q3), (4, .int q4), (5, .int q5), (6, .int q6), (7, .int v7), (8, .int v8), (9, .int v9)] [] am_G0 D
  | 0, _, _, _, _, _, hf, _ => by
    unfold f_X12_bestWay_L31 at hf
    cases hf
  | n + 1, v7, v8, v9, D, ex0, hf, hk0 => by
    unfold f_X12_bestWay_L31 at hf
    refine am_iload (am_dec tmX12_bestWay_0 17 rfl) rfl ?_
    refine am_aload_n (am_dec tmX12_bestWay_0 18 rfl) rfl rfl ?_
    refine am_getI (j := 20) hE (am_dec tmX12_bestWay_0 19 rfl) sh_117 cf12 (by decide) rfl lf_X12_330 ?_
    refine am_icmp_ge (tgt := 134) (am_dec tmX12_bestWay_0 20 rfl) (by decide) (fun c3 => ?_) (fun c3 => ?_)
    · rw [if_pos c3] at hf
      have hf := Option.some.inj hf
      subst hf
      exact am_pick [0, 4, 5, 6, 7] rfl (hk0 _ rfl)
    · rw [if_neg c3] at hf
      refine am_aload_n (am_dec tmX12_bestWay_0 21 rfl) rfl rfl ?_
      refine am_aload_n (am_dec tmX12_bestWay_0 22 rfl) rfl rfl ?_
      refine am_getR (j := 31) hE (am_dec tmX12_bestWay_0 23 rfl) sh_117 cf12 (by decide) rfl lf_X12_64 rf_117_31 ?_
      refine am_iload (am_dec tmX12_bestWay_0 24 rfl) rfl ?_
      obtain ⟨j4, g5, hf⟩ := am_bd hf
      have hj_j4 := (am_gA_lt g5).1
      refine am_aald2 (t := 6) hE (am_dec tmX12_bestWay_0 25 rfl) sh_205 (by decide) rfl rfl g5 (rr_205 hj_j4) ?_
      refine am_iconst (v := (0 : Int32)) (am_dec tmX12_bestWay_0 26 rfl) (by decide) ?_
      obtain ⟨x6, g7, hf⟩ := am_bd hf
      refine am_iald2 hE (am_dec tmX12_bestWay_0 27 rfl) (sa_205_0 hj_j4) g7 ?_
      obtain ⟨D8, g9, hf⟩ := am_bd hf
      refine am_putI2 (j := 14) hE (am_dec tmX12_bestWay_0 28 rfl) sh_117 cf12 (by decide) rfl lf_X12_25 rfl rfl rfl g9 ?_
      refine am_aload_n (am_dec tmX12_bestWay_0 29 rfl) rfl rfl ?_
      refine am_aload_n (am_dec tmX12_bestWay_0 30 rfl) rfl rfl ?_
      refine am_getR (j := 31) hE (am_dec tmX12_bestWay_0 31 rfl) sh_117 cf12 (by decide) rfl lf_X12_64 rf_117_31 ?_
      refine am_iload (am_dec tmX12_bestWay_0 32 rfl) rfl ?_
      obtain ⟨j10, g11, hf⟩ := am_bd hf
      have hj_j10 := (am_gA_lt g11).1
      refine am_aald2 (t := 6) hE (am_dec tmX12_bestWay_0 33 rfl) sh_205 (by decide) rfl rfl g11 (rr_205 hj_j10) ?_
      refine am_iconst (v := (1 : Int32)) (am_dec tmX12_bestWay_0 34 rfl) (by decide) ?_
      obtain ⟨x12, g13, hf⟩ := am_bd hf
      refine am_iald2 hE (am_dec tmX12_bestWay_0 35 rfl) (sa_205_0 hj_j10) g13 ?_
      obtain ⟨D14, g15, hf⟩ := am_bd hf
      refine am_putI2 (j := 15) hE (am_dec tmX12_bestWay_0 36 rfl) sh_117 cf12 (by decide) rfl lf_X12_28 rfl rfl rfl g15 ?_
      refine am_aload_n (am_dec tmX12_bestWay_0 37 rfl) rfl rfl ?_
      refine am_aload_n (am_dec tmX12_bestWay_0 38 rfl) rfl rfl ?_
      refine am_getR (j := 31) hE (am_dec tmX12_bestWay_0 39 rfl) sh_117 cf12 (by decide) rfl lf_X12_64 rf_117_31 ?_
      refine am_iload (am_dec tmX12_bestWay_0 40 rfl) rfl ?_
      obtain ⟨j16, g17, hf⟩ := am_bd hf
      have hj_j16 := (am_gA_lt g17).1
      refine am_aald2 (t := 6) hE (am_dec tmX12_bestWay_0 41 rfl) sh_205 (by decide) rfl rfl g17 (rr_205 hj_j16) ?_
      refine am_iconst (v := (2 : Int32)) (am_dec tmX12_bestWay_0 42 rfl) (by decide) ?_
      obtain ⟨x18, g19, hf⟩ := am_bd hf
      refine am_iald2 hE (am_dec tmX12_bestWay_0 43 rfl) (sa_205_0 hj_j16) g19 ?_
      obtain ⟨D20, g21, hf⟩ := am_bd hf
      refine am_putI2 (j := 16) hE (am_dec tmX12_bestWay_0 44 rfl) sh_117 cf12 (by decide) rfl lf_X12_31 rfl rfl rfl g21 ?_
      refine am_aload_n (am_dec tmX12_bestWay_0 45 rfl) rfl rfl ?_
      refine am_iload_n (am_dec tmX12_bestWay_0 46 rfl) rfl rfl ?_
      refine am_iload_n (am_dec tmX12_bestWay_0 47 rfl) rfl rfl ?_
      obtain ⟨x23, g22, hf⟩ := am_bd hf
      refine am_callV0 (As := [.int q1, .int q2]) (st := []) hE (am_dec tmX12_bestWay_0 48 rfl) ok_X12_drawsBoth rfl lm_X12_303 in_X12_drawsBoth se_X12_drawsBoth sh_117 cf12 (c_X12_drawsBoth hE g22) rfl (Nat.lt_of_lt_of_le (by decide) hdp) (Nat.le_of_ble_eq_true rfl) (Nat.zero_le _) (Nat.zero_le _) rfl ?_
      refine am_iload_n (am_dec tmX12_bestWay_0 49 rfl) rfl rfl ?_
      refine am_iconst (v := (-1 : Int32)) (am_dec tmX12_bestWay_0 50 rfl) (by decide) ?_
      obtain ⟨w30, g36, hf⟩ := am_bd hf
      have key25 : am_S E mX12_bestWay d mc ms o G2 D2 0 0 102 [(0, .ref 117), (1, .int q1), (2, .int q2), (3, .int q3), (4, .int q4), (5, .int q5), (6, .int q6), (7, .int v7), (8, .int v8), (9, .int v9)] [.int w30.1] am_G0 w30.2 := by
        refine am_istore (lv' := [(0, .ref 117), (1, .int q1), (2, .int q2), (3, .int q3), (4, .int q4), (5, .int q5), (6, .int q6), (7, .int v7), (8, .int v8), (9, .int v9), (10, .int w30.1)]) (am_dec tmX12_bestWay_0 58 rfl) (by decide) rfl ?_
        refine am_iload (am_dec tmX12_bestWay_0 59 rfl) rfl ?_
        refine am_iconst (v := (-1 : Int32)) (am_dec tmX12_bestWay_1 0 rfl) (by decide) ?_
        obtain ⟨w34, g35, hf⟩ := am_bd hf
        have key32 : am_S E mX12_bestWay d mc ms o G2 D2 0 0 128 [(0, .ref 117), (1, .int q1), (2, .int q2), (3, .int q3), (4, .int q4), (5, .int q5), (6, .int q6), (7, .int w34.1), (8, .int w34.2), (9, .int v9)] [] am_G0 w30.2 := by
          refine am_iinc (v := (1 : Int32)) (lv' := [(0, .ref 117), (1, .int q1), (2, .int q2), (3, .int q3), (4, .int q4), (5, .int q5), (6, .int q6), (7, .int w34.1), (8, .int w34.2), (9, .int (v9 + (1 : Int32)))]) (am_dec tmX12_bestWay_1 10 rfl) rfl (by decide) (by decide) rfl ?_
          refine am_goto (tgt := 31) (am_dec tmX12_bestWay_1 11 rfl) (by decide) ?_
          exact am_pick [0, 1, 2, 3, 4, 5, 6, 7, 8, 9] rfl (l_X12_bestWay_L31 hE hdp n w34.1 w34.2 (v9 + (1 : Int32)) w30.2 ex0 hf hk0)
        replace hf := g35
        refine am_icmp_eq (tgt := 120) (am_dec tmX12_bestWay_1 1 rfl) (by decide) (fun c31 => ?_) (fun c31 => ?_)
        · rw [if_pos c31] at hf
          refine am_iload (am_dec tmX12_bestWay_1 6 rfl) rfl ?_
          refine am_istore (lv' := [(0, .ref 117), (1, .int q1), (2, .int q2), (3, .int q3), (4, .int q4), (5, .int q5), (6, .int q6), (7, .int v9), (8, .int v8), (9, .int v9), (10, .int w30.1)]) (am_dec tmX12_bestWay_1 7 rfl) (by decide) rfl ?_
          refine am_iload (am_dec tmX12_bestWay_1 8 rfl) rfl ?_
          refine am_istore (lv' := [(0, .ref 117), (1, .int q1), (2, .int q2), (3, .int q3), (4, .int q4), (5, .int q5), (6, .int q6), (7, .int v9), (8, .int w30.1), (9, .int v9), (10, .int w30.1)]) (am_dec tmX12_bestWay_1 9 rfl) (by decide) rfl ?_
          have hf := Option.some.inj hf
          subst hf
          exact am_pick [0, 1, 2, 3, 4, 5, 6, 7, 8, 9] rfl key32
        · rw [if_neg c31] at hf
          refine am_iload (am_dec tmX12_bestWay_1 2 rfl) rfl ?_
          refine am_iload (am_dec tmX12_bestWay_1 3 rfl) rfl ?_
          refine am_icmp_lt (tgt := 120) (am_dec tmX12_bestWay_1 4 rfl) (by decide) (fun c33 => ?_) (fun c33 => ?_)
          · rw [if_pos c33] at hf
            refine am_iload (am_dec tmX12_bestWay_1 6 rfl) rfl ?_
            refine am_istore (lv' := [(0, .ref 117), (1, .int q1), (2, .int q2), (3, .int q3), (4, .int q4), (5, .int q5), (6, .int q6), (7, .int v9), (8, .int v8), (9, .int v9), (10, .int w30.1)]) (am_dec tmX12_bestWay_1 7 rfl) (by decide) rfl ?_
            refine am_iload (am_dec tmX12_bestWay_1 8 rfl) rfl ?_
            refine am_istore (lv' := [(0, .ref 117), (1, .int q1), (2, .int q2), (3, .int q3), (4, .int q4), (5, .int q5), (6, .int q6), (7, .int v9), (8, .int w30.1), (9, .int v9), (10, .int w30.1)]) (am_dec tmX12_bestWay_1 9 rfl) (by decide) rfl ?_
            have hf := Option.some.inj hf
            subst hf
            exact am_pick [0, 1, 2, 3, 4, 5, 6, 7, 8, 9] rfl key32
          · rw [if_neg c33] at hf
            refine am_goto (tgt := 128) (am_dec tmX12_bestWay_1 5 rfl) (by decide) ?_
            have hf := Option.some.inj hf
            subst hf
            exact am_pick [0, 1, 2, 3, 4, 5, 6, 7, 8, 9] rfl key32
      replace hf := g36
      refine am_icmp_ne (tgt := 97) (am_dec tmX12_bestWay_0 51 rfl) (by decide) (fun c24 => ?_) (fun c24 => ?_)
      · rw [if_neg c24] at hf
        refine am_aload_n (am_dec tmX12_bestWay_0 55 rfl) rfl rfl ?_
        refine am_iload_n (am_dec tmX12_bestWay_0 56 rfl) rfl rfl ?_
        obtain ⟨x27, g26, hf⟩ := am_bd hf
        refine am_callV1 (As := [.int q3]) (st := []) hE (am_dec tmX12_bestWay_0 57 rfl) ok_X12_unlikeOf rfl lm_X12_333 in_X12_unlikeOf se_X12_unlikeOf sh_117 cf12 (c_X12_unlikeOf hE g26) rfl (Nat.lt_of_lt_of_le (by decide) hdp) (Nat.le_of_ble_eq_true rfl) (Nat.zero_le _) (Nat.zero_le _) rfl ?_
        have hf := Option.some.inj hf
        subst hf
        exact am_pick [0, 1, 2, 3, 4, 5, 6, 7, 8, 9] rfl key25
      · rw [if_pos c24] at hf
        refine am_aload_n (am_dec tmX12_bestWay_0 52 rfl) rfl rfl ?_
        obtain ⟨x29, g28, hf⟩ := am_bd hf
        refine am_callV1 (As := []) (st := []) hE (am_dec tmX12_bestWay_0 53 rfl) ok_X12_counted rfl lm_X12_327 in_X12_counted se_X12_counted sh_117 cf12 (c_X12_counted hE g28) rfl (Nat.lt_of_lt_of_le (by decide) hdp) (Nat.le_of_ble_eq_true rfl) (Nat.zero_le _) (Nat.zero_le _) rfl ?_
        refine am_goto (tgt := 102) (am_dec tmX12_bestWay_0 54 rfl) (by decide) ?_
        have hf := Option.some.inj hf
        subst hf
        exact am_pick [0, 1, 2, 3, 4, 5, 6, 7, 8, 9] rfl key25
set_option maxRecDepth 100000 in
set_option maxHeartbeats 4000000 in
theorem c_X12_bestWay {E : am_E} (hE : am_EH E) {p1 : Int32} {p2 : Int32} {p3 : Int32} {D : am_D} {r : (Int32 × am_D)}  (hf : f_X12_bestWay p1 p2 p3 D = some r) : am_C E mX12_bestWay 7 0 0 [.ref 117, .int p1, .int p2, .int p3] am_G0 D (.inl (some (.int r.1))) am_G0 r.2 := by
  refine am_C_of (by decide +kernel) (Nat.le_of_ble_eq_true rfl) ?_
  change am_S E mX12_bestWay 7 0 0 (.inl (some (.int r.1))) am_G0 r.2 0 0 0 [(0, .ref 117), (1, .int p1), (2, .int p2), (3, .int p3)] [] am_G0 D
  unfold f_X12_bestWay at hf
  refine am_aload_n (am_dec tmX12_bestWay_0 0 rfl) rfl rfl ?_
  refine am_getI (j := 14) hE (am_dec tmX12_bestWay_0 1 rfl) sh_117 cf12 (by decide) rfl lf_X12_25 ?_
  refine am_istore (lv' := [(0, .ref 117), (1, .int p1), (2, .int p2), (3, .int p3), (4, .int (D.1 117 14))]) (am_dec tmX12_bestWay_0 2 rfl) (by decide) rfl ?_
  refine am_aload_n (am_dec tmX12_bestWay_0 3 rfl) rfl rfl ?_
  refine am_getI (j := 15) hE (am_dec tmX12_bestWay_0 4 rfl) sh_117 cf12 (by decide) rfl lf_X12_28 ?_
  refine am_istore (lv' := [(0, .ref 117), (1, .int p1), (2, .int p2), (3, .int p3), (4, .int (D.1 117 14)), (5, .int (D.1 117 15))]) (am_dec tmX12_bestWay_0 5 rfl) (by decide) rfl ?_
  refine am_aload_n (am_dec tmX12_bestWay_0 6 rfl) rfl rfl ?_
  refine am_getI (j := 16) hE (am_dec tmX12_bestWay_0 7 rfl) sh_117 cf12 (by decide) rfl lf_X12_31 ?_
  refine am_istore (lv' := [(0, .ref 117), (1, .int p1), (2, .int p2), (3, .int p3), (4, .int (D.1 117 14)), (5, .int (D.1 117 15)), (6, .int (D.1 117 16))]) (am_dec tmX12_bestWay_0 8 rfl) (by decide) rfl ?_
  refine am_iconst (v := (-1 : Int32)) (am_dec tmX12_bestWay_0 9 rfl) (by decide) ?_
  refine am_istore (lv' := [(0, .ref 117), (1, .int p1), (2, .int p2), (3, .int p3), (4, .int (D.1 117 14)), (5, .int (D.1 117 15)), (6, .int (D.1 117 16)), (7, .int (-1 : Int32))]) (am_dec tmX12_bestWay_0 10 rfl) (by decide) rfl ?_
  refine am_iconst (v := (0 : Int32)) (am_dec tmX12_bestWay_0 11 rfl) (by decide) ?_
  refine am_istore (lv' := [(0, .ref 117), (1, .int p1), (2, .int p2), (3, .int p3), (4, .int (D.1 117 14)), (5, .int (D.1 117 15)), (6, .int (D.1 117 16)), (7, .int (-1 : Int32)), (8, .int (0 : Int32))]) (am_dec tmX12_bestWay_0 12 rfl) (by decide) rfl ?_
  refine am_aload_n (am_dec tmX12_bestWay_0 13 rfl) rfl rfl ?_
  obtain ⟨x2, g1, hf⟩ := am_bd hf
  refine am_callV0 (As := []) (st := []) hE (am_dec tmX12_bestWay_0 14 rfl) ok_X12_lays rfl lm_X12_238 in_X12_lays se_X12_lays sh_117 cf12 (c_X12_lays hE g1) rfl (by decide) (Nat.le_of_ble_eq_true rfl) (Nat.zero_le _) (Nat.zero_le _) rfl ?_
  refine am_iconst (v := (0 : Int32)) (am_dec tmX12_bestWay_0 15 rfl) (by decide) ?_
  refine am_istore (lv' := [(0, .ref 117), (1, .int p1), (2, .int p2), (3, .int p3), (4, .int (D.1 117 14)), (5, .int (D.1 117 15)), (6, .int (D.1 117 16)), (7, .int (-1 : Int32)), (8, .int (0 : Int32)), (9, .int (0 : Int32))]) (am_dec tmX12_bestWay_0 16 rfl) (by decide) rfl ?_
  obtain ⟨e37, g46, hf⟩ := am_bd hf
  refine am_pick [0, 1, 2, 3, 4, 5, 6, 7, 8, 9] rfl (l_X12_bestWay_L31 hE (Nat.le_refl _) am_fu _ _ _ _ _ g46 (fun ex he => ?_))
  subst he
  refine am_aload_n (am_dec tmX12_bestWay_1 12 rfl) rfl rfl ?_
  obtain ⟨x39, g38, hf⟩ := am_bd hf
  refine am_callV0 (As := []) (st := []) hE (am_dec tmX12_bestWay_1 13 rfl) ok_X12_laysBack rfl lm_X12_244 in_X12_laysBack se_X12_laysBack sh_117 cf12 (c_X12_laysBack hE g38) rfl (by decide) (Nat.le_of_ble_eq_true rfl) (Nat.zero_le _) (Nat.zero_le _) rfl ?_
  refine am_aload_n (am_dec tmX12_bestWay_1 14 rfl) rfl rfl ?_
  refine am_iload (am_dec tmX12_bestWay_1 15 rfl) rfl ?_
  obtain ⟨D40, g41, hf⟩ := am_bd hf
  refine am_putI2 (j := 14) hE (am_dec tmX12_bestWay_1 16 rfl) sh_117 cf12 (by decide) rfl lf_X12_25 rfl rfl rfl g41 ?_
  refine am_aload_n (am_dec tmX12_bestWay_1 17 rfl) rfl rfl ?_
  refine am_iload (am_dec tmX12_bestWay_1 18 rfl) rfl ?_
  obtain ⟨D42, g43, hf⟩ := am_bd hf
  refine am_putI2 (j := 15) hE (am_dec tmX12_bestWay_1 19 rfl) sh_117 cf12 (by decide) rfl lf_X12_28 rfl rfl rfl g43 ?_
  refine am_aload_n (am_dec tmX12_bestWay_1 20 rfl) rfl rfl ?_
  refine am_iload (am_dec tmX12_bestWay_1 21 rfl) rfl ?_
  obtain ⟨D44, g45, hf⟩ := am_bd hf
  refine am_putI2 (j := 16) hE (am_dec tmX12_bestWay_1 22 rfl) sh_117 cf12 (by decide) rfl lf_X12_31 rfl rfl rfl g45 ?_
  refine am_iload (am_dec tmX12_bestWay_1 23 rfl) rfl ?_
  have hf := Option.some.inj hf
  subst hf
  exact am_iret (am_dec tmX12_bestWay_1 24 rfl) rfl (Nat.zero_le _) (Nat.zero_le _)
