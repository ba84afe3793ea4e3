def f_X12_findCrossings_L4 (q1 : Int32) : Nat → Int32 → Int32 → am_D → Option (Int32 × am_D)
  | 0, _, _, _ => none
  | n + 1, v2, v3, D =>
    (am_gI D 139 5 q1).bind fun x1 =>
    if x1 ≤ v3 then
    some (v2, D)
    else
    (am_gA 5 q1).bind fun j4 =>
    (am_gI D (134 + j4) 600 v3).bind fun x6 =>
    (if x6 < 0 then
    some (v2, D)
    else
    (am_gA 5 q1).bind fun j10 =>
    (am_gI D (134 + j10) 600 (v3 - (1 : Int32))).bind fun x12 =>
    if x12 < 0 then
    (am_pI D 2631 600 v2 v3).bind fun D15 =>
    some ((v2 + (1 : Int32)), D15)
    else
    some (v2, D)).bind fun w17 =>
    f_X12_findCrossings_L4 q1 n w17.1 (v3 + (1 : Int32)) w17.2
def f_X12_findCrossings (p1 : Int32) (D : am_D) : Option ((Int32 × am_D)) :=
    (f_X12_findCrossings_L4 p1 am_fu (0 : Int32) (1 : Int32) D).bind fun e19 =>
    some (e19.1, e19.2)
set_option maxRecDepth 100000 in
set_option maxHeartbeats 4000000 in
theorem l_X12_findCrossings_L4 {E : am_E} (hE : am_EH E) {d mc ms : Nat} {o : am_O} {G2 : am_G} {D2 : am_D} (hdp : 1 ≤ d) {q1 : Int32}  : ∀ (n : Nat) (v2 : Int32) (v3 : Int32) (D : am_D) (ex0 : Int32 × am_D), f_X12_findCrossings_L4 q1 n v2 v3 D = some ex0 → (∀ ex : Int32 × am_D, ex0 = ex → am_S E mX12_findCrossings d mc ms o G2 D2 0 0 57 [(2, .int ex.1)] [] am_G0 ex.2) → am_S E mX12_findCrossings d mc ms o G2 D2 0 0 4 [(0, .ref 117), (1, .int q1), (2, .int v2), (3, .int v3)] [] am_G0 D
  | 0, _, _, _, _, hf, _ => by
    unfold f_X12_findCrossings_L4 at hf
    cases hf
  | n + 1, v2, v3, D, ex0, hf, hk0 => by
    unfold f_X12_findCrossings_L4 at hf
    refine am_iload_n (am_dec tmX12_findCrossings 4 rfl) rfl rfl ?_
    refine am_aload_n (am_dec tmX12_findCrossings 5 rfl) rfl rfl ?_
    refine am_getR (j := 25) hE (am_dec tmX12_findCrossings 6 rfl) sh_117 cf12 (by decide) rfl lf_X12_46 rf_117_25 ?_
    refine am_iload_n (am_dec tmX12_findCrossings 7 rfl) rfl rfl ?_
    obtain ⟨x1, g2, hf⟩ := am_bd hf
    refine am_iald2 hE (am_dec tmX12_findCrossings 8 rfl) sh_139 g2 ?_
    refine am_icmp_ge (tgt := 57) (am_dec tmX12_findCrossings 9 rfl) (by decide) (fun c3 => ?_) (fun c3 => ?_)
    · rw [if_pos c3] at hf
      have hf := Option.some.inj hf
      subst hf
      exact am_pick [2] rfl (hk0 _ rfl)
    · rw [if_neg c3] at hf
      refine am_aload_n (am_dec tmX12_findCrossings 10 rfl) rfl rfl ?_
      refine am_getR (j := 24) hE (am_dec tmX12_findCrossings 11 rfl) sh_117 cf12 (by decide) rfl lf_X12_43 rf_117_24 ?_
      refine am_iload_n (am_dec tmX12_findCrossings 12 rfl) rfl rfl ?_
      obtain ⟨j4, g5, hf⟩ := am_bd hf
      have hj_j4 := (am_gA_lt g5).1
      refine am_aald2 (t := 6) hE (am_dec tmX12_findCrossings 13 rfl) sh_133 (by decide) rfl rfl g5 (rr_133 hj_j4) ?_
      refine am_iload_n (am_dec tmX12_findCrossings 14 rfl) rfl rfl ?_
      obtain ⟨x6, g7, hf⟩ := am_bd hf
      refine am_iald2 hE (am_dec tmX12_findCrossings 15 rfl) (sa_133_0 hj_j4) g7 ?_
      obtain ⟨w17, g18, hf⟩ := am_bd hf
      have key9 : am_S E mX12_findCrossings d mc ms o G2 D2 0 0 51 [(0, .ref 117), (1, .int q1), (2, .int w17.1), (3, .int v3)] [] am_G0 w17.2 := by
        refine am_iinc (v := (1 : Int32)) (lv' := [(0, .ref 117), (1, .int q1), (2, .int w17.1), (3, .int (v3 + (1 : Int32)))]) (am_dec tmX12_findCrossings 33 rfl) rfl (by decide) (by decide) rfl ?_
        refine am_goto (tgt := 4) (am_dec tmX12_findCrossings 34 rfl) (by decide) ?_
        exact am_pick [0, 1, 2, 3] rfl (l_X12_findCrossings_L4 hE hdp n w17.1 (v3 + (1 : Int32)) w17.2 ex0 hf hk0)
      replace hf := g18
      refine am_if_lt (tgt := 51) (am_dec tmX12_findCrossings 16 rfl) (by decide) (fun c8 => ?_) (fun c8 => ?_)
      · rw [if_pos c8] at hf
        have hf := Option.some.inj hf
        subst hf
        exact am_pick [0, 1, 2, 3] rfl key9
      · rw [if_neg c8] at hf
        refine am_aload_n (am_dec tmX12_findCrossings 17 rfl) rfl rfl ?_
        refine am_getR (j := 24) hE (am_dec tmX12_findCrossings 18 rfl) sh_117 cf12 (by decide) rfl lf_X12_43 rf_117_24 ?_
        refine am_iload_n (am_dec tmX12_findCrossings 19 rfl) rfl rfl ?_
        obtain ⟨j10, g11, hf⟩ := am_bd hf
        have hj_j10 := (am_gA_lt g11).1
        refine am_aald2 (t := 6) hE (am_dec tmX12_findCrossings 20 rfl) sh_133 (by decide) rfl rfl g11 (rr_133 hj_j10) ?_
        refine am_iload_n (am_dec tmX12_findCrossings 21 rfl) rfl rfl ?_
        refine am_iconst (v := (1 : Int32)) (am_dec tmX12_findCrossings 22 rfl) (by decide) ?_
        refine am_isub (am_dec tmX12_findCrossings 23 rfl) ?_
        obtain ⟨x12, g13, hf⟩ := am_bd hf
        refine am_iald2 hE (am_dec tmX12_findCrossings 24 rfl) (sa_133_0 hj_j10) g13 ?_
        refine am_if_lt (tgt := 41) (am_dec tmX12_findCrossings 25 rfl) (by decide) (fun c14 => ?_) (fun c14 => ?_)
        · rw [if_pos c14] at hf
          refine am_aload_n (am_dec tmX12_findCrossings 27 rfl) rfl rfl ?_
          refine am_getR (j := 53) hE (am_dec tmX12_findCrossings 28 rfl) sh_117 cf12 (by decide) rfl lf_X12_100 rf_117_53 ?_
          refine am_iload_n (am_dec tmX12_findCrossings 29 rfl) rfl rfl ?_
          refine am_iload_n (am_dec tmX12_findCrossings 30 rfl) rfl rfl ?_
          obtain ⟨D15, g16, hf⟩ := am_bd hf
          refine am_iast2 hE (am_dec tmX12_findCrossings 31 rfl) sh_2631 g16 ?_
          refine am_iinc (v := (1 : Int32)) (lv' := [(0, .ref 117), (1, .int q1), (2, .int (v2 + (1 : Int32))), (3, .int v3)]) (am_dec tmX12_findCrossings 32 rfl) rfl (by decide) (by decide) rfl ?_
          have hf := Option.some.inj hf
          subst hf
          exact am_pick [0, 1, 2, 3] rfl key9
        · rw [if_neg c14] at hf
          refine am_goto (tgt := 51) (am_dec tmX12_findCrossings 26 rfl) (by decide) ?_
          have hf := Option.some.inj hf
          subst hf
          exact am_pick [0, 1, 2, 3] rfl key9
set_option maxRecDepth 100000 in
set_option maxHeartbeats 4000000 in
theorem c_X12_findCrossings {E : am_E} (hE : am_EH E) {p1 : Int32} {D : am_D} {r : (Int32 × am_D)}  (hf : f_X12_findCrossings p1 D = some r) : am_C E mX12_findCrossings 1 0 0 [.ref 117, .int p1] am_G0 D (.inl (some (.int r.1))) am_G0 r.2 := by
  refine am_C_of (by decide +kernel) (Nat.le_of_ble_eq_true rfl) ?_
  change am_S E mX12_findCrossings 1 0 0 (.inl (some (.int r.1))) am_G0 r.2 0 0 0 [(0, .ref 117), (1, .int p1)] [] am_G0 D
  unfold f_X12_findCrossings at hf
  refine am_iconst (v := (0 : Int32)) (am_dec tmX12_findCrossings 0 rfl) (by decide) ?_
  refine am_istore_n (lv' := [(0, .ref 117), (1, .int p1), (2, .int (0 : Int32))]) (am_dec tmX12_findCrossings 1 rfl) rfl (by decide) rfl ?_
  refine am_iconst (v := (1 : Int32)) (am_dec tmX12_findCrossings 2 rfl) (by decide) ?_
  refine am_istore_n (lv' := [(0, .ref 117), (1, .int p1), (2, .int (0 : Int32)), (3, .int (1 : Int32))]) (am_dec tmX12_findCrossings 3 rfl) rfl (by decide) rfl ?_
  obtain ⟨e19, g20, hf⟩ := am_bd hf
  refine am_pick [0, 1, 2, 3] rfl (l_X12_findCrossings_L4 hE (Nat.le_refl _) am_fu _ _ _ _ g20 (fun ex he => ?_))
  subst he
  refine am_iload_n (am_dec tmX12_findCrossings 35 rfl) rfl rfl ?_
  have hf := Option.some.inj hf
  subst hf
  exact am_iret (am_dec tmX12_findCrossings 36 rfl) rfl (Nat.zero_le _) (Nat.zero_le _)
def f_X12_crossing (p1 : Int32) (p2 : Int32) (D : am_D) : Option ((Int32 × am_D)) :=
    (some (am_wI D 117 0 (0 : Int32))).bind fun D1 =>
    (f_X12_isSound p1 D1).bind fun x4 =>
    (if x4 = 0 then
    some ((1 : Int32))
    else
    some ((0 : Int32))).bind fun w7 =>
    (f_X12_bad w7 (1 : Int32) D1).bind fun x9 =>
    if x9.1 = 0 then
    (f_X12_findCrossings p1 x9.2).bind fun x12 =>
    (f_X12_in p2 (0 : Int32) (x12.1 - (1 : Int32))).bind fun x14 =>
    if x14 = 0 then
    some ((-1 : Int32), x12.2)
    else
    (am_gI x12.2 2631 600 p2).bind fun x16 =>
    some (x16, x12.2)
    else
    some ((0 : Int32), x9.2)
set_option maxRecDepth 100000 in
set_option maxHeartbeats 4000000 in
theorem c_X12_crossing {E : am_E} (hE : am_EH E) {p1 : Int32} {p2 : Int32} {D : am_D} {r : (Int32 × am_D)}  (hf : f_X12_crossing p1 p2 D = some r) : am_C E mX12_crossing 3 0 0 [.ref 117, .int p1, .int p2] am_G0 D (.inl (some (.int r.1))) am_G0 r.2 := by
  refine am_C_of (by decide +kernel) (Nat.le_of_ble_eq_true rfl) ?_
  change am_S E mX12_crossing 3 0 0 (.inl (some (.int r.1))) am_G0 r.2 0 0 0 [(0, .ref 117), (1, .int p1), (2, .int p2)] [] am_G0 D
  unfold f_X12_crossing at hf
  refine am_aload_n (am_dec tmX12_crossing 0 rfl) rfl rfl ?_
  refine am_iconst (v := (0 : Int32)) (am_dec tmX12_crossing 1 rfl) (by decide) ?_
  obtain ⟨D1, g2, hf⟩ := am_bd hf
  refine am_putI2 (j := 0) hE (am_dec tmX12_crossing 2 rfl) sh_117 cf12 (by decide) rfl lf_X12_110 rfl rfl rfl g2 ?_
  refine am_aload_n (am_dec tmX12_crossing 3 rfl) rfl rfl ?_
  refine am_aload_n (am_dec tmX12_crossing 4 rfl) rfl rfl ?_
  refine am_iload_n (am_dec tmX12_crossing 5 rfl) rfl rfl ?_
  obtain ⟨x4, g3, hf⟩ := am_bd hf
  refine am_callV1 (As := [.int p1]) (st := [.ref 117]) hE (am_dec tmX12_crossing 6 rfl) ok_X12_isSound rfl lm_X12_217 in_X12_isSound se_X12_isSound sh_117 cf12 (c_X12_isSound hE g3) rfl (by decide) (Nat.le_of_ble_eq_true rfl) (Nat.zero_le _) (Nat.zero_le _) rfl ?_
  obtain ⟨w7, g18, hf⟩ := am_bd hf
  have key6 : am_S E mX12_crossing 3 0 0 (.inl (some (.int r.1))) am_G0 r.2 0 0 19 [(0, .ref 117), (1, .int p1), (2, .int p2)] [.int w7, .ref 117] am_G0 D1 := by
    refine am_iconst (v := (1 : Int32)) (am_dec tmX12_crossing 11 rfl) (by decide) ?_
    obtain ⟨x9, g8, hf⟩ := am_bd hf
    refine am_callV1 (As := [.int w7, .int (1 : Int32)]) (st := []) hE (am_dec tmX12_crossing 12 rfl) ok_X12_bad rfl lm_X12_191 in_X12_bad se_X12_bad sh_117 cf12 (c_X12_bad hE g8) rfl (by decide) (Nat.le_of_ble_eq_true rfl) (Nat.zero_le _) (Nat.zero_le _) rfl ?_
    refine am_if_eq (tgt := 28) (am_dec tmX12_crossing 13 rfl) (by decide) (fun c10 => ?_) (fun c10 => ?_)
    · rw [if_pos c10] at hf
      refine am_aload_n (am_dec tmX12_crossing 16 rfl) rfl rfl ?_
      refine am_iload_n (am_dec tmX12_crossing 17 rfl) rfl rfl ?_
      obtain ⟨x12, g11, hf⟩ := am_bd hf
      refine am_callV1 (As := [.int p1]) (st := []) hE (am_dec tmX12_crossing 18 rfl) ok_X12_findCrossings rfl lm_X12_365 in_X12_findCrossings se_X12_findCrossings sh_117 cf12 (c_X12_findCrossings hE g11) rfl (by decide) (Nat.le_of_ble_eq_true rfl) (Nat.zero_le _) (Nat.zero_le _) rfl ?_
      refine am_istore_n (lv' := [(0, .ref 117), (1, .int p1), (2, .int p2), (3, .int x12.1)]) (am_dec tmX12_crossing 19 rfl) rfl (by decide) rfl ?_
      refine am_iload_n (am_dec tmX12_crossing 20 rfl) rfl rfl ?_
      refine am_iconst (v := (0 : Int32)) (am_dec tmX12_crossing 21 rfl) (by decide) ?_
      refine am_iload_n (am_dec tmX12_crossing 22 rfl) rfl rfl ?_
      refine am_iconst (v := (1 : Int32)) (am_dec tmX12_crossing 23 rfl) (by decide) ?_
      refine am_isub (am_dec tmX12_crossing 24 rfl) ?_
      obtain ⟨x14, g13, hf⟩ := am_bd hf
      refine am_callS1 (As := [.int p2, .int (0 : Int32), .int (x12.1 - (1 : Int32))]) (st := []) (am_dec tmX12_crossing 25 rfl) ok_X12_in rfl lm_X12_144 st_X12_in (c_X12_in hE g13) rfl (by decide) (Nat.le_of_ble_eq_true rfl) (Nat.zero_le _) (Nat.zero_le _) rfl ?_
      refine am_if_eq (tgt := 54) (am_dec tmX12_crossing 26 rfl) (by decide) (fun c15 => ?_) (fun c15 => ?_)
      · rw [if_pos c15] at hf
        refine am_iconst (v := (-1 : Int32)) (am_dec tmX12_crossing 32 rfl) (by decide) ?_
        have hf := Option.some.inj hf
        subst hf
        exact am_iret (am_dec tmX12_crossing 33 rfl) rfl (Nat.zero_le _) (Nat.zero_le _)
      · rw [if_neg c15] at hf
        refine am_aload_n (am_dec tmX12_crossing 27 rfl) rfl rfl ?_
        refine am_getR (j := 53) hE (am_dec tmX12_crossing 28 rfl) sh_117 cf12 (by decide) rfl lf_X12_100 rf_117_53 ?_
        refine am_iload_n (am_dec tmX12_crossing 29 rfl) rfl rfl ?_
        obtain ⟨x16, g17, hf⟩ := am_bd hf
        refine am_iald2 hE (am_dec tmX12_crossing 30 rfl) sh_2631 g17 ?_
        refine am_goto (tgt := 55) (am_dec tmX12_crossing 31 rfl) (by decide) ?_
        have hf := Option.some.inj hf
        subst hf
        exact am_iret (am_dec tmX12_crossing 33 rfl) rfl (Nat.zero_le _) (Nat.zero_le _)
    · rw [if_neg c10] at hf
      refine am_iconst (v := (0 : Int32)) (am_dec tmX12_crossing 14 rfl) (by decide) ?_
      have hf := Option.some.inj hf
      subst hf
      exact am_iret (am_dec tmX12_crossing 15 rfl) rfl (Nat.zero_le _) (Nat.zero_le _)
  replace hf := g18
  refine am_if_ne (tgt := 18) (am_dec tmX12_crossing 7 rfl) (by decide) (fun c5 => ?_) (fun c5 => ?_)
  · rw [if_neg c5] at hf
    refine am_iconst (v := (0 : Int32)) (am_dec tmX12_crossing 10 rfl) (by decide) ?_
    have hf := Option.some.inj hf
    subst hf
    exact am_pick [0, 1, 2] rfl key6
  · rw [if_pos c5] at hf
    refine am_iconst (v := (1 : Int32)) (am_dec tmX12_crossing 8 rfl) (by decide) ?_
    refine am_goto (tgt := 19) (am_dec tmX12_crossing 9 rfl) (by decide) ?_
    have hf := Option.some.inj hf
    subst hf
    exact am_pick [0, 1, 2] rfl key6
def f_X12_periodOf (p1 : Int32) (D : am_D) : Option ((Int32 × am_D)) :=
    (f_X12_findCrossings p1 D).bind fun x2 =>
    if (2 : Int32) ≤ x2.1 then
    (am_gI x2.2 2631 600 (x2.1 - (1 : Int32))).bind fun x4 =>
    (am_gI x2.2 2631 600 (0 : Int32)).bind fun x6 =>
    (am_dv ((100 : Int32) * (x4 - x6)) (x2.1 - (1 : Int32))).bind fun x8 =>
    some (x8, x2.2)
    else
    some ((-1 : Int32), x2.2)
set_option maxRecDepth 100000 in
set_option maxHeartbeats 4000000 in
theorem c_X12_periodOf {E : am_E} (hE : am_EH E) {p1 : Int32} {D : am_D} {r : (Int32 × am_D)}  (hf : f_X12_periodOf p1 D = some r) : am_C E mX12_periodOf 2 0 0 [.ref 117, .int p1] am_G0 D (.inl (some (.int r.1))) am_G0 r.2 := by
  refine am_C_of (by decide +kernel) (Nat.le_of_ble_eq_true rfl) ?_
  change am_S E mX12_periodOf 2 0 0 (.inl (some (.int r.1))) am_G0 r.2 0 0 0 [(0, .ref 117), (1, .int p1)] [] am_G0 D
  unfold f_X12_periodOf at hf
  refine am_aload_n (am_dec tmX12_periodOf 0 rfl) rfl rfl ?_
  refine am_iload_n (am_dec tmX12_periodOf 1 rfl) rfl rfl ?_
  obtain ⟨x2, g1, hf⟩ := am_bd hf
  refine am_callV1 (As := [.int p1]) (st := []) hE (am_dec tmX12_periodOf 2 rfl) ok_X12_findCrossings rfl lm_X12_365 in_X12_findCrossings se_X12_findCrossings sh_117 cf12 (c_X12_findCrossings hE g1) rfl (by decide) (Nat.le_of_ble_eq_true rfl) (Nat.zero_le _) (Nat.zero_le _) rfl ?_
  refine am_istore_n (lv' := [(0, .ref 117), (1, .int p1), (2, .int x2.1)]) (am_dec tmX12_periodOf 3 rfl) rfl (by decide) rfl ?_
  refine am_iload_n (am_dec tmX12_periodOf 4 rfl) rfl rfl ?_
  refine am_iconst (v := (2 : Int32)) (am_dec tmX12_periodOf 5 rfl) (by decide) ?_
  refine am_icmp_ge (tgt := 15) (am_dec tmX12_periodOf 6 rfl) (by decide) (fun c3 => ?_) (fun c3 => ?_)
  · rw [if_pos c3] at hf
    refine am_bipush (v := (100 : Int32)) (am_dec tmX12_periodOf 9 rfl) (by decide) ?_
    refine am_aload_n (am_dec tmX12_periodOf 10 rfl) rfl rfl ?_
    refine am_getR (j := 53) hE (am_dec tmX12_periodOf 11 rfl) sh_117 cf12 (by decide) rfl lf_X12_100 rf_117_53 ?_
    refine am_iload_n (am_dec tmX12_periodOf 12 rfl) rfl rfl ?_
    refine am_iconst (v := (1 : Int32)) (am_dec tmX12_periodOf 13 rfl) (by decide) ?_
    refine am_isub (am_dec tmX12_periodOf 14 rfl) ?_
    obtain ⟨x4, g5, hf⟩ := am_bd hf
    refine am_iald2 hE (am_dec tmX12_periodOf 15 rfl) sh_2631 g5 ?_
    refine am_aload_n (am_dec tmX12_periodOf 16 rfl) rfl rfl ?_
    refine am_getR (j := 53) hE (am_dec tmX12_periodOf 17 rfl) sh_117 cf12 (by decide) rfl lf_X12_100 rf_117_53 ?_
    refine am_iconst (v := (0 : Int32)) (am_dec tmX12_periodOf 18 rfl) (by decide) ?_
    obtain ⟨x6, g7, hf⟩ := am_bd hf
    refine am_iald2 hE (am_dec tmX12_periodOf 19 rfl) sh_2631 g7 ?_
    refine am_isub (am_dec tmX12_periodOf 20 rfl) ?_
    refine am_imul (am_dec tmX12_periodOf 21 rfl) ?_
    refine am_iload_n (am_dec tmX12_periodOf 22 rfl) rfl rfl ?_
    refine am_iconst (v := (1 : Int32)) (am_dec tmX12_periodOf 23 rfl) (by decide) ?_
    refine am_isub (am_dec tmX12_periodOf 24 rfl) ?_
    obtain ⟨x8, g9, hf⟩ := am_bd hf
    refine am_idiv2 (am_dec tmX12_periodOf 25 rfl) g9 ?_
    have hf := Option.some.inj hf
    subst hf
    exact am_iret (am_dec tmX12_periodOf 26 rfl) rfl (Nat.zero_le _) (Nat.zero_le _)
  · rw [if_neg c3] at hf
    refine am_iconst (v := (-1 : Int32)) (am_dec tmX12_periodOf 7 rfl) (by decide) ?_
    refine am_goto (tgt := 37) (am_dec tmX12_periodOf 8 rfl) (by decide) ?_
    have hf := Option.some.inj hf
    subst hf
    exact am_iret (am_dec tmX12_periodOf 26 rfl) rfl (Nat.zero_le _) (Nat.zero_le _)
def f_X12_period (p1 : Int32) (D : am_D) : Option ((Int32 × am_D)) :=
    (some (am_wI D 117 0 (0 : Int32))).bind fun D1 =>
    (f_X12_isSound p1 D1).bind fun x4 =>
    (if x4 = 0 then
    some ((1 : Int32))
    else
    some ((0 : Int32))).bind fun w7 =>
    (f_X12_bad w7 (1 : Int32) D1).bind fun x9 =>
    if x9.1 = 0 then
    (f_X12_periodOf p1 x9.2).bind fun x12 =>
    some (x12.1, x12.2)
    else
    some ((0 : Int32), x9.2)
set_option maxRecDepth 100000 in
set_option maxHeartbeats 4000000 in
theorem c_X12_period {E : am_E} (hE : am_EH E) {p1 : Int32} {D : am_D} {r : (Int32 × am_D)}  (hf : f_X12_period p1 D = some r) : am_C E mX12_period 3 0 0 [.ref 117, .int p1] am_G0 D (.inl (some (.int r.1))) am_G0 r.2 := by
  refine am_C_of (by decide +kernel) (Nat.le_of_ble_eq_true rfl) ?_
  change am_S E mX12_period 3 0 0 (.inl (some (.int r.1))) am_G0 r.2 0 0 0 [(0, .ref 117), (1, .int p1)] [] am_G0 D
  unfold f_X12_period at hf
  refine am_aload_n (am_dec tmX12_period 0 rfl) rfl rfl ?_
  refine am_iconst (v := (0 : Int32)) (am_dec tmX12_period 1 rfl) (by decide) ?_
  obtain ⟨D1, g2, hf⟩ := am_bd hf
  refine am_putI2 (j := 0) hE (am_dec tmX12_period 2 rfl) sh_117 cf12 (by decide) rfl lf_X12_110 rfl rfl rfl g2 ?_
  refine am_aload_n (am_dec tmX12_period 3 rfl) rfl rfl ?_
  refine am_aload_n (am_dec tmX12_period 4 rfl) rfl rfl ?_
  refine am_iload_n (am_dec tmX12_period 5 rfl) rfl rfl ?_
  obtain ⟨x4, g3, hf⟩ := am_bd hf
  refine am_callV1 (As := [.int p1]) (st := [.ref 117]) hE (am_dec tmX12_period 6 rfl) ok_X12_isSound rfl lm_X12_217 in_X12_isSound se_X12_isSound sh_117 cf12 (c_X12_isSound hE g3) rfl (by decide) (Nat.le_of_ble_eq_true rfl) (Nat.zero_le _) (Nat.zero_le _) rfl ?_
  obtain ⟨w7, g13, hf⟩ := am_bd hf
  have key6 : am_S E mX12_period 3 0 0 (.inl (some (.int r.1))) am_G0 r.2 0 0 19 [(0, .ref 117), (1, .int p1)] [.int w7, .ref 117] am_G0 D1 := by
    refine am_iconst (v := (1 : Int32)) (am_dec tmX12_period 11 rfl) (by decide) ?_
    obtain ⟨x9, g8, hf⟩ := am_bd hf
    refine am_callV1 (As := [.int w7, .int (1 : Int32)]) (st := []) hE (am_dec tmX12_period 12 rfl) ok_X12_bad rfl lm_X12_191 in_X12_bad se_X12_bad sh_117 cf12 (c_X12_bad hE g8) rfl (by decide) (Nat.le_of_ble_eq_true rfl) (Nat.zero_le _) (Nat.zero_le _) rfl ?_
    refine am_if_eq (tgt := 28) (am_dec tmX12_period 13 rfl) (by decide) (fun c10 => ?_) (fun c10 => ?_)
    · rw [if_pos c10] at hf
      refine am_aload_n (am_dec tmX12_period 16 rfl) rfl rfl ?_
      refine am_iload_n (am_dec tmX12_period 17 rfl) rfl rfl ?_
      obtain ⟨x12, g11, hf⟩ := am_bd hf
      refine am_callV1 (As := [.int p1]) (st := []) hE (am_dec tmX12_period 18 rfl) ok_X12_periodOf rfl lm_X12_368 in_X12_periodOf se_X12_periodOf sh_117 cf12 (c_X12_periodOf hE g11) rfl (by decide) (Nat.le_of_ble_eq_true rfl) (Nat.zero_le _) (Nat.zero_le _) rfl ?_
      have hf := Option.some.inj hf
      subst hf
      exact am_iret (am_dec tmX12_period 19 rfl) rfl (Nat.zero_le _) (Nat.zero_le _)
    · rw [if_neg c10] at hf
      refine am_iconst (v := (0 : Int32)) (am_dec tmX12_period 14 rfl) (by decide) ?_
      have hf := Option.some.inj hf
      subst hf
      exact am_iret (am_dec tmX12_period 15 rfl) rfl (Nat.zero_le _) (Nat.zero_le _)
  replace hf := g13
  refine am_if_ne (tgt := 18) (am_dec tmX12_period 7 rfl) (by decide) (fun c5 => ?_) (fun c5 => ?_)
  · rw [if_neg c5] at hf
    refine am_iconst (v := (0 : Int32)) (am_dec tmX12_period 10 rfl) (by decide) ?_
    have hf := Option.some.inj hf
    subst hf
    exact am_pick [0, 1] rfl key6
  · rw [if_pos c5] at hf
    refine am_iconst (v := (1 : Int32)) (am_dec tmX12_period 8 rfl) (by decide) ?_
    refine am_goto (tgt := 19) (am_dec tmX12_period 9 rfl) (by decide) ?_
    have hf := Option.some.inj hf
    subst hf
    exact am_pick [0, 1] rfl key6
def f_X12_hum (p1 : Int32) (D : am_D) : Option ((Int32 × am_D)) :=
    (some (am_wI D 117 0 (0 : Int32))).bind fun D1 =>
    (f_X12_in p1 (400 : Int32) (6000 : Int32)).bind fun x4 =>
    (if x4 = 0 then
    some ((1 : Int32))
    else
    some ((0 : Int32))).bind fun w7 =>
    (f_X12_bad w7 (1 : Int32) D1).bind fun x9 =>
    if x9.1 = 0 then
    if (x9.2.1 117 22) = (6 : Int32) then
    some ((-1 : Int32), x9.2)
    else
    (am_pI x9.2 203 6 (x9.2.1 117 22) p1).bind fun D12 =>
    (some (am_wI D12 117 22 ((D12.1 117 22) + (1 : Int32)))).bind fun D14 =>
    some ((D14.1 117 22), D14)
    else
    some ((0 : Int32), x9.2)
set_option maxRecDepth 100000 in
set_option maxHeartbeats 4000000 in
theorem c_X12_hum {E : am_E} (hE : am_EH E) {p1 : Int32} {D : am_D} {r : (Int32 × am_D)}  (hf : f_X12_hum p1 D = some r) : am_C E mX12_hum 2 0 0 [.ref 117, .int p1] am_G0 D (.inl (some (.int r.1))) am_G0 r.2 := by
  refine am_C_of (by decide +kernel) (Nat.le_of_ble_eq_true rfl) ?_
  change am_S E mX12_hum 2 0 0 (.inl (some (.int r.1))) am_G0 r.2 0 0 0 [(0, .ref 117), (1, .int p1)] [] am_G0 D
  unfold f_X12_hum at hf
  refine am_aload_n (am_dec tmX12_hum 0 rfl) rfl rfl ?_
  refine am_iconst (v := (0 : Int32)) (am_dec tmX12_hum 1 rfl) (by decide) ?_
  obtain ⟨D1, g2, hf⟩ := am_bd hf
  refine am_putI2 (j := 0) hE (am_dec tmX12_hum 2 rfl) sh_117 cf12 (by decide) rfl lf_X12_110 rfl rfl rfl g2 ?_
  refine am_aload_n (am_dec tmX12_hum 3 rfl) rfl rfl ?_
  refine am_iload_n (am_dec tmX12_hum 4 rfl) rfl rfl ?_
  refine am_sipush (v := (400 : Int32)) (am_dec tmX12_hum 5 rfl) (by decide) ?_
  refine am_sipush (v := (6000 : Int32)) (am_dec tmX12_hum 6 rfl) (by decide) ?_
  obtain ⟨x4, g3, hf⟩ := am_bd hf
  refine am_callS1 (As := [.int p1, .int (400 : Int32), .int (6000 : Int32)]) (st := [.ref 117]) (am_dec tmX12_hum 7 rfl) ok_X12_in rfl lm_X12_144 st_X12_in (c_X12_in hE g3) rfl (by decide) (Nat.le_of_ble_eq_true rfl) (Nat.zero_le _) (Nat.zero_le _) rfl ?_
  obtain ⟨w7, g16, hf⟩ := am_bd hf
  have key6 : am_S E mX12_hum 2 0 0 (.inl (some (.int r.1))) am_G0 r.2 0 0 24 [(0, .ref 117), (1, .int p1)] [.int w7, .ref 117] am_G0 D1 := by
    refine am_iconst (v := (1 : Int32)) (am_dec tmX12_hum 12 rfl) (by decide) ?_
    obtain ⟨x9, g8, hf⟩ := am_bd hf
    refine am_callV1 (As := [.int w7, .int (1 : Int32)]) (st := []) hE (am_dec tmX12_hum 13 rfl) ok_X12_bad rfl lm_X12_191 in_X12_bad se_X12_bad sh_117 cf12 (c_X12_bad hE g8) rfl (by decide) (Nat.le_of_ble_eq_true rfl) (Nat.zero_le _) (Nat.zero_le _) rfl ?_
    refine am_if_eq (tgt := 33) (am_dec tmX12_hum 14 rfl) (by decide) (fun c10 => ?_) (fun c10 => ?_)
    · rw [if_pos c10] at hf
      refine am_aload_n (am_dec tmX12_hum 17 rfl) rfl rfl ?_
      refine am_getI (j := 22) hE (am_dec tmX12_hum 18 rfl) sh_117 cf12 (by decide) rfl lf_X12_371 ?_
      refine am_bipush (v := (6 : Int32)) (am_dec tmX12_hum 19 rfl) (by decide) ?_
      refine am_icmp_ne (tgt := 44) (am_dec tmX12_hum 20 rfl) (by decide) (fun c11 => ?_) (fun c11 => ?_)
      · rw [if_neg c11] at hf
        refine am_aload_n (am_dec tmX12_hum 23 rfl) rfl rfl ?_
        refine am_getR (j := 29) hE (am_dec tmX12_hum 24 rfl) sh_117 cf12 (by decide) rfl lf_X12_58 rf_117_29 ?_
        refine am_aload_n (am_dec tmX12_hum 25 rfl) rfl rfl ?_
        refine am_getI (j := 22) hE (am_dec tmX12_hum 26 rfl) sh_117 cf12 (by decide) rfl lf_X12_371 ?_
        refine am_iload_n (am_dec tmX12_hum 27 rfl) rfl rfl ?_
        obtain ⟨D12, g13, hf⟩ := am_bd hf
        refine am_iast2 hE (am_dec tmX12_hum 28 rfl) sh_203 g13 ?_
        refine am_aload_n (am_dec tmX12_hum 29 rfl) rfl rfl ?_
        refine am_dup (am_dec tmX12_hum 30 rfl) rfl ?_
        refine am_getI (j := 22) hE (am_dec tmX12_hum 31 rfl) sh_117 cf12 (by decide) rfl lf_X12_371 ?_
        refine am_iconst (v := (1 : Int32)) (am_dec tmX12_hum 32 rfl) (by decide) ?_
        refine am_iadd (am_dec tmX12_hum 33 rfl) ?_
        obtain ⟨D14, g15, hf⟩ := am_bd hf
        refine am_putI2 (j := 22) hE (am_dec tmX12_hum 34 rfl) sh_117 cf12 (by decide) rfl lf_X12_371 rfl rfl rfl g15 ?_
        refine am_aload_n (am_dec tmX12_hum 35 rfl) rfl rfl ?_
        refine am_getI (j := 22) hE (am_dec tmX12_hum 36 rfl) sh_117 cf12 (by decide) rfl lf_X12_371 ?_
        have hf := Option.some.inj hf
        subst hf
        exact am_iret (am_dec tmX12_hum 37 rfl) rfl (Nat.zero_le _) (Nat.zero_le _)
      · rw [if_pos c11] at hf
        refine am_iconst (v := (-1 : Int32)) (am_dec tmX12_hum 21 rfl) (by decide) ?_
        have hf := Option.some.inj hf
        subst hf
        exact am_iret (am_dec tmX12_hum 22 rfl) rfl (Nat.zero_le _) (Nat.zero_le _)
    · rw [if_neg c10] at hf
      refine am_iconst (v := (0 : Int32)) (am_dec tmX12_hum 15 rfl) (by decide) ?_
      have hf := Option.some.inj hf
      subst hf
      exact am_iret (am_dec tmX12_hum 16 rfl) rfl (Nat.zero_le _) (Nat.zero_le _)
  replace hf := g16
  refine am_if_ne (tgt := 23) (am_dec tmX12_hum 8 rfl) (by decide) (fun c5 => ?_) (fun c5 => ?_)
  · rw [if_neg c5] at hf
    refine am_iconst (v := (0 : Int32)) (am_dec tmX12_hum 11 rfl) (by decide) ?_
    have hf := Option.some.inj hf
    subst hf
    exact am_pick [0, 1] rfl key6
  · rw [if_pos c5] at hf
    refine am_iconst (v := (1 : Int32)) (am_dec tmX12_hum 9 rfl) (by decide) ?_
    refine am_goto (tgt := 24) (am_dec tmX12_hum 10 rfl) (by decide) ?_
    have hf := Option.some.inj hf
    subst hf
    exact am_pick [0, 1] rfl key6
def f_X12_meant_L72 (q2 : Int32) (q3 : Int32) (q5 : Int32) (D : am_D) : Nat → Int32 → Int32 → Option (Int32)
  | 0, _, _ => none
  | n + 1, v4, v6 =>
    if (D.1 117 22) ≤ v6 then
    some (v4)
    else
    (if v4 = (-1 : Int32) then
    some (v6)
    else
    (am_gI D 203 6 v6).bind fun x25 =>
    (f_X12_amount (x25 - q3)).bind fun x28 =>
    (am_gI D 203 6 v4).bind fun x29 =>
    (f_X12_amount (x29 - q3)).bind fun x32 =>
    if x32 ≤ x28 then
    some (v4)
    else
    some (v6)).bind fun w34 =>
    f_X12_meant_L72 q2 q3 q5 D n w34 (v6 + (1 : Int32))
def f_X12_meant_L134 (q3 : Int32) (q4 : Int32) (D : am_D) : Nat → Int32 → Int32 → Option (Int32)
  | 0, _, _ => none
  | n + 1, v5, v6 =>
    if (D.1 117 22) ≤ v6 then
    some (v5)
    else
    (if v6 = q4 then
    some (v5)
    else
    (if v5 = (-1 : Int32) then
    (am_gI D 203 6 v6).bind fun x49 =>
    (f_X12_amount (x49 - q3)).bind fun x52 =>
    some (x52)
    else
    (am_gI D 203 6 v6).bind fun x43 =>
    (f_X12_amount (x43 - q3)).bind fun x46 =>
    (f_X12_less v5 x46).bind fun x48 =>
    some (x48)).bind fun w53 =>
    some (w53)).bind fun w55 =>
    f_X12_meant_L134 q3 q4 D n w55 (v6 + (1 : Int32))
def f_X12_meant (p1 : Int32) (p2 : Int32) (D : am_D) : Option ((Int32 × am_D)) :=
    (some (am_wI D 117 0 (0 : Int32))).bind fun D1 =>
    (f_X12_isSound p1 D1).bind fun x4 =>
    (if x4 = 0 then
    some ((1 : Int32))
    else
    some ((0 : Int32))).bind fun w7 =>
    (f_X12_bad w7 (1 : Int32) D1).bind fun x9 =>
    if x9.1 = 0 then
    (f_X12_in p2 (0 : Int32) (1 : Int32)).bind fun x12 =>
    (if x12 = 0 then
    some ((1 : Int32))
    else
    some ((0 : Int32))).bind fun w15 =>
    (f_X12_bad w15 (2 : Int32) x9.2).bind fun x17 =>
    if x17.1 = 0 then
    (f_X12_periodOf p1 x17.2).bind fun x20 =>
    if x20.1 = (-1 : Int32) then
    some ((-1 : Int32), x20.2)
    else
    (f_X12_meant_L72 p2 x20.1 (-1 : Int32) x20.2 am_fu (-1 : Int32) (0 : Int32)).bind fun e36 =>
    if p2 = 0 then
    some (e36, x20.2)
    else
    (f_X12_meant_L134 x20.1 e36 x20.2 am_fu (-1 : Int32) (0 : Int32)).bind fun e57 =>
    if e57 = (-1 : Int32) then
    some ((-1 : Int32), x20.2)
    else
    (am_gI x20.2 203 6 e36).bind fun x59 =>
    (f_X12_amount (x59 - x20.1)).bind fun x62 =>
    some ((e57 - x62), x20.2)
    else
    some ((0 : Int32), x17.2)
    else
    some ((0 : Int32), x9.2)
set_option maxRecDepth 100000 in
set_option maxHeartbeats 4000000 in
theorem l_X12_meant_L72 {E : am_E} (hE : am_EH E) {d mc ms : Nat} {o : am_O} {G2 : am_G} {D2 : am_D} (hdp : 3 ≤ d) {q2 : Int32} {q3 : Int32} {q5 : Int32} {D : am_D}  : ∀ (n : Nat) (v4 : Int32) (v6 : Int32) (ex0 : Int32), f_X12_meant_L72 q2 q3 q5 D n v4 v6 = some ex0 → (∀ ex : Int32, ex0 = ex → am_S E mX12_meant d mc ms o G2 D2 0 0 124 [(0, .ref 117), (2, .int q2), (3, .int q3), (4, .int ex), (5, .int q5)] [] am_G0 D) → am_S E mX12_meant d mc ms o G2 D2 0 0 72 [(0, .ref 117), (2, .int q2), (3, .int q3), (4, .int v4), (5, .int q5), (6, .int v6)] [] am_G0 D
  | 0, _, _, _, hf, _ => by
    unfold f_X12_meant_L72 at hf
    cases hf
  | n + 1, v4, v6, ex0, hf, hk0 => by
    unfold f_X12_meant_L72 at hf
    refine am_iload (am_dec tmX12_meant_0 43 rfl) rfl ?_
    refine am_aload_n (am_dec tmX12_meant_0 44 rfl) rfl rfl ?_
    refine am_getI (j := 22) hE (am_dec tmX12_meant_0 45 rfl) sh_117 cf12 (by decide) rfl lf_X12_371 ?_
    refine am_icmp_ge (tgt := 124) (am_dec tmX12_meant_0 46 rfl) (by decide) (fun c22 => ?_) (fun c22 => ?_)
    · rw [if_pos c22] at hf
      have hf := Option.some.inj hf
      subst hf
      exact am_pick [0, 1, 2, 3, 4] rfl (hk0 _ rfl)
    · rw [if_neg c22] at hf
      refine am_iload (am_dec tmX12_meant_0 47 rfl) rfl ?_
      refine am_iconst (v := (-1 : Int32)) (am_dec tmX12_meant_0 48 rfl) (by decide) ?_
      obtain ⟨w34, g35, hf⟩ := am_bd hf
      have key24 : am_S E mX12_meant d mc ms o G2 D2 0 0 118 [(0, .ref 117), (2, .int q2), (3, .int q3), (4, .int w34), (5, .int q5), (6, .int v6)] [] am_G0 D := by
        refine am_iinc (v := (1 : Int32)) (lv' := [(0, .ref 117), (2, .int q2), (3, .int q3), (4, .int w34), (5, .int q5), (6, .int (v6 + (1 : Int32)))]) (am_dec tmX12_meant_1 7 rfl) rfl (by decide) (by decide) rfl ?_
        refine am_goto (tgt := 72) (am_dec tmX12_meant_1 8 rfl) (by decide) ?_
        exact am_pick [0, 1, 2, 3, 4, 5] rfl (l_X12_meant_L72 hE hdp n w34 (v6 + (1 : Int32)) ex0 hf hk0)
      replace hf := g35
      refine am_icmp_eq (tgt := 114) (am_dec tmX12_meant_0 49 rfl) (by decide) (fun c23 => ?_) (fun c23 => ?_)
      · rw [if_pos c23] at hf
        refine am_iload (am_dec tmX12_meant_1 5 rfl) rfl ?_
        refine am_istore (lv' := [(0, .ref 117), (2, .int q2), (3, .int q3), (4, .int v6), (5, .int q5), (6, .int v6)]) (am_dec tmX12_meant_1 6 rfl) (by decide) rfl ?_
        have hf := Option.some.inj hf
        subst hf
        exact am_pick [0, 1, 2, 3, 4, 5] rfl key24
      · rw [if_neg c23] at hf
        refine am_aload_n (am_dec tmX12_meant_0 50 rfl) rfl rfl ?_
        refine am_getR (j := 29) hE (am_dec tmX12_meant_0 51 rfl) sh_117 cf12 (by decide) rfl lf_X12_58 rf_117_29 ?_
        refine am_iload (am_dec tmX12_meant_0 52 rfl) rfl ?_
        obtain ⟨x25, g26, hf⟩ := am_bd hf
        refine am_iald2 hE (am_dec tmX12_meant_0 53 rfl) sh_203 g26 ?_
        refine am_iload_n (am_dec tmX12_meant_0 54 rfl) rfl rfl ?_
        refine am_isub (am_dec tmX12_meant_0 55 rfl) ?_
        obtain ⟨x28, g27, hf⟩ := am_bd hf
        refine am_callS1 (As := [.int (x25 - q3)]) (st := []) (am_dec tmX12_meant_0 56 rfl) ok_X12_amount rfl lm_X12_281 st_X12_amount (c_X12_amount hE g27) rfl (Nat.lt_of_lt_of_le (by decide) hdp) (Nat.le_of_ble_eq_true rfl) (Nat.zero_le _) (Nat.zero_le _) rfl ?_
        refine am_aload_n (am_dec tmX12_meant_0 57 rfl) rfl rfl ?_
        refine am_getR (j := 29) hE (am_dec tmX12_meant_0 58 rfl) sh_117 cf12 (by decide) rfl lf_X12_58 rf_117_29 ?_
        refine am_iload (am_dec tmX12_meant_0 59 rfl) rfl ?_
        obtain ⟨x29, g30, hf⟩ := am_bd hf
        refine am_iald2 hE (am_dec tmX12_meant_1 0 rfl) sh_203 g30 ?_
        refine am_iload_n (am_dec tmX12_meant_1 1 rfl) rfl rfl ?_
        refine am_isub (am_dec tmX12_meant_1 2 rfl) ?_
        obtain ⟨x32, g31, hf⟩ := am_bd hf
        refine am_callS1 (As := [.int (x29 - q3)]) (st := [.int x28]) (am_dec tmX12_meant_1 3 rfl) ok_X12_amount rfl lm_X12_281 st_X12_amount (c_X12_amount hE g31) rfl (Nat.lt_of_lt_of_le (by decide) hdp) (Nat.le_of_ble_eq_true rfl) (Nat.zero_le _) (Nat.zero_le _) rfl ?_
        refine am_icmp_ge (tgt := 118) (am_dec tmX12_meant_1 4 rfl) (by decide) (fun c33 => ?_) (fun c33 => ?_)
        · rw [if_pos c33] at hf
          have hf := Option.some.inj hf
          subst hf
          exact am_pick [0, 1, 2, 3, 4, 5] rfl key24
        · rw [if_neg c33] at hf
          refine am_iload (am_dec tmX12_meant_1 5 rfl) rfl ?_
          refine am_istore (lv' := [(0, .ref 117), (2, .int q2), (3, .int q3), (4, .int v6), (5, .int q5), (6, .int v6)]) (am_dec tmX12_meant_1 6 rfl) (by decide) rfl ?_
          have hf := Option.some.inj hf
          subst hf
          exact am_pick [0, 1, 2, 3, 4, 5] rfl key24
set_option maxRecDepth 100000 in
set_option maxHeartbeats 4000000 in
theorem l_X12_meant_L134 {E : am_E} (hE : am_EH E) {d mc ms : Nat} {o : am_O} {G2 : am_G} {D2 : am_D} (hdp : 3 ≤ d) {q3 : Int32} {q4 : Int32} {D : am_D}  : ∀ (n : Nat) (v5 : Int32) (v6 : Int32) (ex0 : Int32), f_X12_meant_L134 q3 q4 D n v5 v6 = some ex0 → (∀ ex : Int32, ex0 = ex → am_S E mX12_meant d mc ms o G2 D2 0 0 196 [(0, .ref 117), (3, .int q3), (4, .int q4), (5, .int ex)] [] am_G0 D) → am_S E mX12_meant d mc ms o G2 D2 0 0 134 [(0, .ref 117), (3, .int q3), (4, .int q4), (5, .int v5), (6, .int v6)] [] am_G0 D
  | 0, _, _, _, hf, _ => by
    unfold f_X12_meant_L134 at hf
    cases hf
  | n + 1, v5, v6, ex0, hf, hk0 => by
    unfold f_X12_meant_L134 at hf
    refine am_iload (am_dec tmX12_meant_1 15 rfl) rfl ?_
    refine am_aload_n (am_dec tmX12_meant_1 16 rfl) rfl rfl ?_
    refine am_getI (j := 22) hE (am_dec tmX12_meant_1 17 rfl) sh_117 cf12 (by decide) rfl lf_X12_371 ?_
    refine am_icmp_ge (tgt := 196) (am_dec tmX12_meant_1 18 rfl) (by decide) (fun c38 => ?_) (fun c38 => ?_)
    · rw [if_pos c38] at hf
      have hf := Option.some.inj hf
      subst hf
      exact am_pick [0, 1, 2, 3] rfl (hk0 _ rfl)
    · rw [if_neg c38] at hf
      refine am_iload (am_dec tmX12_meant_1 19 rfl) rfl ?_
      refine am_iload (am_dec tmX12_meant_1 20 rfl) rfl ?_
      obtain ⟨w55, g56, hf⟩ := am_bd hf
      have key40 : am_S E mX12_meant d mc ms o G2 D2 0 0 190 [(0, .ref 117), (3, .int q3), (4, .int q4), (5, .int w55), (6, .int v6)] [] am_G0 D := by
        refine am_iinc (v := (1 : Int32)) (lv' := [(0, .ref 117), (3, .int q3), (4, .int q4), (5, .int w55), (6, .int (v6 + (1 : Int32)))]) (am_dec tmX12_meant_1 43 rfl) rfl (by decide) (by decide) rfl ?_
        refine am_goto (tgt := 134) (am_dec tmX12_meant_1 44 rfl) (by decide) ?_
        exact am_pick [0, 1, 2, 3, 4] rfl (l_X12_meant_L134 hE hdp n w55 (v6 + (1 : Int32)) ex0 hf hk0)
      replace hf := g56
      refine am_icmp_eq (tgt := 190) (am_dec tmX12_meant_1 21 rfl) (by decide) (fun c39 => ?_) (fun c39 => ?_)
      · rw [if_pos c39] at hf
        have hf := Option.some.inj hf
        subst hf
        exact am_pick [0, 1, 2, 3, 4] rfl key40
      · rw [if_neg c39] at hf
        refine am_iload (am_dec tmX12_meant_1 22 rfl) rfl ?_
        refine am_iconst (v := (-1 : Int32)) (am_dec tmX12_meant_1 23 rfl) (by decide) ?_
        obtain ⟨w53, g54, hf⟩ := am_bd hf
        have key42 : am_S E mX12_meant d mc ms o G2 D2 0 0 188 [(0, .ref 117), (3, .int q3), (4, .int q4), (6, .int v6)] [.int w53] am_G0 D := by
          refine am_istore (lv' := [(0, .ref 117), (3, .int q3), (4, .int q4), (5, .int w53), (6, .int v6)]) (am_dec tmX12_meant_1 42 rfl) (by decide) rfl ?_
          have hf := Option.some.inj hf
          subst hf
          exact am_pick [0, 1, 2, 3, 4] rfl key40
        replace hf := g54
        refine am_icmp_ne (tgt := 171) (am_dec tmX12_meant_1 24 rfl) (by decide) (fun c41 => ?_) (fun c41 => ?_)
        · rw [if_neg c41] at hf
          refine am_iload (am_dec tmX12_meant_1 33 rfl) rfl ?_
          refine am_aload_n (am_dec tmX12_meant_1 34 rfl) rfl rfl ?_
          refine am_getR (j := 29) hE (am_dec tmX12_meant_1 35 rfl) sh_117 cf12 (by decide) rfl lf_X12_58 rf_117_29 ?_
          refine am_iload (am_dec tmX12_meant_1 36 rfl) rfl ?_
          obtain ⟨x43, g44, hf⟩ := am_bd hf
          refine am_iald2 hE (am_dec tmX12_meant_1 37 rfl) sh_203 g44 ?_
          refine am_iload_n (am_dec tmX12_meant_1 38 rfl) rfl rfl ?_
          refine am_isub (am_dec tmX12_meant_1 39 rfl) ?_
          obtain ⟨x46, g45, hf⟩ := am_bd hf
          refine am_callS1 (As := [.int (x43 - q3)]) (st := [.int v5]) (am_dec tmX12_meant_1 40 rfl) ok_X12_amount rfl lm_X12_281 st_X12_amount (c_X12_amount hE g45) rfl (Nat.lt_of_lt_of_le (by decide) hdp) (Nat.le_of_ble_eq_true rfl) (Nat.zero_le _) (Nat.zero_le _) rfl ?_
          obtain ⟨x48, g47, hf⟩ := am_bd hf
          refine am_callS1 (As := [.int v5, .int x46]) (st := []) (am_dec tmX12_meant_1 41 rfl) ok_X12_less rfl lm_X12_374 st_X12_less (c_X12_less hE g47) rfl (Nat.lt_of_lt_of_le (by decide) hdp) (Nat.le_of_ble_eq_true rfl) (Nat.zero_le _) (Nat.zero_le _) rfl ?_
          have hf := Option.some.inj hf
          subst hf
          exact am_pick [0, 1, 2, 4] rfl key42
        · rw [if_pos c41] at hf
          refine am_aload_n (am_dec tmX12_meant_1 25 rfl) rfl rfl ?_
          refine am_getR (j := 29) hE (am_dec tmX12_meant_1 26 rfl) sh_117 cf12 (by decide) rfl lf_X12_58 rf_117_29 ?_
          refine am_iload (am_dec tmX12_meant_1 27 rfl) rfl ?_
          obtain ⟨x49, g50, hf⟩ := am_bd hf
          refine am_iald2 hE (am_dec tmX12_meant_1 28 rfl) sh_203 g50 ?_
          refine am_iload_n (am_dec tmX12_meant_1 29 rfl) rfl rfl ?_
          refine am_isub (am_dec tmX12_meant_1 30 rfl) ?_
          obtain ⟨x52, g51, hf⟩ := am_bd hf
          refine am_callS1 (As := [.int (x49 - q3)]) (st := []) (am_dec tmX12_meant_1 31 rfl) ok_X12_amount rfl lm_X12_281 st_X12_amount (c_X12_amount hE g51) rfl (Nat.lt_of_lt_of_le (by decide) hdp) (Nat.le_of_ble_eq_true rfl) (Nat.zero_le _) (Nat.zero_le _) rfl ?_
          refine am_goto (tgt := 188) (am_dec tmX12_meant_1 32 rfl) (by decide) ?_
          have hf := Option.some.inj hf
          subst hf
          exact am_pick [0, 1, 2, 4] rfl key42
set_option maxRecDepth 100000 in
set_option maxHeartbeats 4000000 in
theorem c_X12_meant {E : am_E} (hE : am_EH E) {p1 : Int32} {p2 : Int32} {D : am_D} {r : (Int32 × am_D)}  (hf : f_X12_meant p1 p2 D = some r) : am_C E mX12_meant 3 0 0 [.ref 117, .int p1, .int p2] am_G0 D (.inl (some (.int r.1))) am_G0 r.2 := by
  refine am_C_of (by decide +kernel) (Nat.le_of_ble_eq_true rfl) ?_
  change am_S E mX12_meant 3 0 0 (.inl (some (.int r.1))) am_G0 r.2 0 0 0 [(0, .ref 117), (1, .int p1), (2, .int p2)] [] am_G0 D
  unfold f_X12_meant at hf
  refine am_aload_n (am_dec tmX12_meant_0 0 rfl) rfl rfl ?_
  refine am_iconst (v := (0 : Int32)) (am_dec tmX12_meant_0 1 rfl) (by decide) ?_
  obtain ⟨D1, g2, hf⟩ := am_bd hf
  refine am_putI2 (j := 0) hE (am_dec tmX12_meant_0 2 rfl) sh_117 cf12 (by decide) rfl lf_X12_110 rfl rfl rfl g2 ?_
  refine am_aload_n (am_dec tmX12_meant_0 3 rfl) rfl rfl ?_
  refine am_aload_n (am_dec tmX12_meant_0 4 rfl) rfl rfl ?_
  refine am_iload_n (am_dec tmX12_meant_0 5 rfl) rfl rfl ?_
  obtain ⟨x4, g3, hf⟩ := am_bd hf
  refine am_callV1 (As := [.int p1]) (st := [.ref 117]) hE (am_dec tmX12_meant_0 6 rfl) ok_X12_isSound rfl lm_X12_217 in_X12_isSound se_X12_isSound sh_117 cf12 (c_X12_isSound hE g3) rfl (by decide) (Nat.le_of_ble_eq_true rfl) (Nat.zero_le _) (Nat.zero_le _) rfl ?_
  obtain ⟨w7, g66, hf⟩ := am_bd hf
  have key6 : am_S E mX12_meant 3 0 0 (.inl (some (.int r.1))) am_G0 r.2 0 0 19 [(0, .ref 117), (1, .int p1), (2, .int p2)] [.int w7, .ref 117] am_G0 D1 := by
    refine am_iconst (v := (1 : Int32)) (am_dec tmX12_meant_0 11 rfl) (by decide) ?_
    obtain ⟨x9, g8, hf⟩ := am_bd hf
    refine am_callV1 (As := [.int w7, .int (1 : Int32)]) (st := []) hE (am_dec tmX12_meant_0 12 rfl) ok_X12_bad rfl lm_X12_191 in_X12_bad se_X12_bad sh_117 cf12 (c_X12_bad hE g8) rfl (by decide) (Nat.le_of_ble_eq_true rfl) (Nat.zero_le _) (Nat.zero_le _) rfl ?_
    refine am_if_ne (tgt := 48) (am_dec tmX12_meant_0 13 rfl) (by decide) (fun c10 => ?_) (fun c10 => ?_)
    · rw [if_neg c10] at hf
      refine am_iconst (v := (0 : Int32)) (am_dec tmX12_meant_0 26 rfl) (by decide) ?_
      have hf := Option.some.inj hf
      subst hf
      exact am_iret (am_dec tmX12_meant_0 27 rfl) rfl (Nat.zero_le _) (Nat.zero_le _)
    · rw [if_pos c10] at hf
      refine am_aload_n (am_dec tmX12_meant_0 14 rfl) rfl rfl ?_
      refine am_iload_n (am_dec tmX12_meant_0 15 rfl) rfl rfl ?_
      refine am_iconst (v := (0 : Int32)) (am_dec tmX12_meant_0 16 rfl) (by decide) ?_
      refine am_iconst (v := (1 : Int32)) (am_dec tmX12_meant_0 17 rfl) (by decide) ?_
      obtain ⟨x12, g11, hf⟩ := am_bd hf
      refine am_callS1 (As := [.int p2, .int (0 : Int32), .int (1 : Int32)]) (st := [.ref 117]) (am_dec tmX12_meant_0 18 rfl) ok_X12_in rfl lm_X12_144 st_X12_in (c_X12_in hE g11) rfl (by decide) (Nat.le_of_ble_eq_true rfl) (Nat.zero_le _) (Nat.zero_le _) rfl ?_
      obtain ⟨w15, g65, hf⟩ := am_bd hf
      have key14 : am_S E mX12_meant 3 0 0 (.inl (some (.int r.1))) am_G0 r.2 0 0 41 [(0, .ref 117), (1, .int p1), (2, .int p2)] [.int w15, .ref 117] am_G0 x9.2 := by
        refine am_iconst (v := (2 : Int32)) (am_dec tmX12_meant_0 23 rfl) (by decide) ?_
        obtain ⟨x17, g16, hf⟩ := am_bd hf
        refine am_callV1 (As := [.int w15, .int (2 : Int32)]) (st := []) hE (am_dec tmX12_meant_0 24 rfl) ok_X12_bad rfl lm_X12_191 in_X12_bad se_X12_bad sh_117 cf12 (c_X12_bad hE g16) rfl (by decide) (Nat.le_of_ble_eq_true rfl) (Nat.zero_le _) (Nat.zero_le _) rfl ?_
        refine am_if_eq (tgt := 50) (am_dec tmX12_meant_0 25 rfl) (by decide) (fun c18 => ?_) (fun c18 => ?_)
        · rw [if_pos c18] at hf
          refine am_aload_n (am_dec tmX12_meant_0 28 rfl) rfl rfl ?_
          refine am_iload_n (am_dec tmX12_meant_0 29 rfl) rfl rfl ?_
          obtain ⟨x20, g19, hf⟩ := am_bd hf
          refine am_callV1 (As := [.int p1]) (st := []) hE (am_dec tmX12_meant_0 30 rfl) ok_X12_periodOf rfl lm_X12_368 in_X12_periodOf se_X12_periodOf sh_117 cf12 (c_X12_periodOf hE g19) rfl (by decide) (Nat.le_of_ble_eq_true rfl) (Nat.zero_le _) (Nat.zero_le _) rfl ?_
          refine am_istore_n (lv' := [(0, .ref 117), (1, .int p1), (2, .int p2), (3, .int x20.1)]) (am_dec tmX12_meant_0 31 rfl) rfl (by decide) rfl ?_
          refine am_iconst (v := (-1 : Int32)) (am_dec tmX12_meant_0 32 rfl) (by decide) ?_
          refine am_istore (lv' := [(0, .ref 117), (1, .int p1), (2, .int p2), (3, .int x20.1), (4, .int (-1 : Int32))]) (am_dec tmX12_meant_0 33 rfl) (by decide) rfl ?_
          refine am_iconst (v := (-1 : Int32)) (am_dec tmX12_meant_0 34 rfl) (by decide) ?_
          refine am_istore (lv' := [(0, .ref 117), (1, .int p1), (2, .int p2), (3, .int x20.1), (4, .int (-1 : Int32)), (5, .int (-1 : Int32))]) (am_dec tmX12_meant_0 35 rfl) (by decide) rfl ?_
          refine am_iload_n (am_dec tmX12_meant_0 36 rfl) rfl rfl ?_
          refine am_iconst (v := (-1 : Int32)) (am_dec tmX12_meant_0 37 rfl) (by decide) ?_
          refine am_icmp_ne (tgt := 69) (am_dec tmX12_meant_0 38 rfl) (by decide) (fun c21 => ?_) (fun c21 => ?_)
          · rw [if_neg c21] at hf
            refine am_iconst (v := (0 : Int32)) (am_dec tmX12_meant_0 41 rfl) (by decide) ?_
            refine am_istore (lv' := [(0, .ref 117), (1, .int p1), (2, .int p2), (3, .int x20.1), (4, .int (-1 : Int32)), (5, .int (-1 : Int32)), (6, .int (0 : Int32))]) (am_dec tmX12_meant_0 42 rfl) (by decide) rfl ?_
            obtain ⟨e36, g64, hf⟩ := am_bd hf
            refine am_pick [0, 2, 3, 4, 5, 6] rfl (l_X12_meant_L72 hE (Nat.le_refl _) am_fu _ _ _ g64 (fun ex he => ?_))
            subst he
            refine am_iload_n (am_dec tmX12_meant_1 9 rfl) rfl rfl ?_
            refine am_if_ne (tgt := 131) (am_dec tmX12_meant_1 10 rfl) (by decide) (fun c37 => ?_) (fun c37 => ?_)
            · rw [if_neg c37] at hf
              refine am_iconst (v := (0 : Int32)) (am_dec tmX12_meant_1 13 rfl) (by decide) ?_
              refine am_istore (lv' := [(0, .ref 117), (2, .int p2), (3, .int x20.1), (4, .int e36), (5, .int (-1 : Int32)), (6, .int (0 : Int32))]) (am_dec tmX12_meant_1 14 rfl) (by decide) rfl ?_
              obtain ⟨e57, g63, hf⟩ := am_bd hf
              refine am_pick [0, 2, 3, 4, 5] rfl (l_X12_meant_L134 hE (Nat.le_refl _) am_fu _ _ _ g63 (fun ex he => ?_))
              subst he
              refine am_iload (am_dec tmX12_meant_1 45 rfl) rfl ?_
              refine am_iconst (v := (-1 : Int32)) (am_dec tmX12_meant_1 46 rfl) (by decide) ?_
              refine am_icmp_ne (tgt := 206) (am_dec tmX12_meant_1 47 rfl) (by decide) (fun c58 => ?_) (fun c58 => ?_)
              · rw [if_neg c58] at hf
                refine am_iload (am_dec tmX12_meant_1 50 rfl) rfl ?_
                refine am_aload_n (am_dec tmX12_meant_1 51 rfl) rfl rfl ?_
                refine am_getR (j := 29) hE (am_dec tmX12_meant_1 52 rfl) sh_117 cf12 (by decide) rfl lf_X12_58 rf_117_29 ?_
                refine am_iload (am_dec tmX12_meant_1 53 rfl) rfl ?_
                obtain ⟨x59, g60, hf⟩ := am_bd hf
                refine am_iald2 hE (am_dec tmX12_meant_1 54 rfl) sh_203 g60 ?_
                refine am_iload_n (am_dec tmX12_meant_1 55 rfl) rfl rfl ?_
                refine am_isub (am_dec tmX12_meant_1 56 rfl) ?_
                obtain ⟨x62, g61, hf⟩ := am_bd hf
                refine am_callS1 (As := [.int (x59 - x20.1)]) (st := [.int e57]) (am_dec tmX12_meant_1 57 rfl) ok_X12_amount rfl lm_X12_281 st_X12_amount (c_X12_amount hE g61) rfl (by decide) (Nat.le_of_ble_eq_true rfl) (Nat.zero_le _) (Nat.zero_le _) rfl ?_
                refine am_isub (am_dec tmX12_meant_1 58 rfl) ?_
                have hf := Option.some.inj hf
                subst hf
                exact am_iret (am_dec tmX12_meant_1 59 rfl) rfl (Nat.zero_le _) (Nat.zero_le _)
              · rw [if_pos c58] at hf
                refine am_iconst (v := (-1 : Int32)) (am_dec tmX12_meant_1 48 rfl) (by decide) ?_
                refine am_goto (tgt := 221) (am_dec tmX12_meant_1 49 rfl) (by decide) ?_
                have hf := Option.some.inj hf
                subst hf
                exact am_iret (am_dec tmX12_meant_1 59 rfl) rfl (Nat.zero_le _) (Nat.zero_le _)
            · rw [if_pos c37] at hf
              refine am_iload (am_dec tmX12_meant_1 11 rfl) rfl ?_
              have hf := Option.some.inj hf
              subst hf
              exact am_iret (am_dec tmX12_meant_1 12 rfl) rfl (Nat.zero_le _) (Nat.zero_le _)
          · rw [if_pos c21] at hf
            refine am_iconst (v := (-1 : Int32)) (am_dec tmX12_meant_0 39 rfl) (by decide) ?_
            have hf := Option.some.inj hf
            subst hf
            exact am_iret (am_dec tmX12_meant_0 40 rfl) rfl (Nat.zero_le _) (Nat.zero_le _)
        · rw [if_neg c18] at hf
          refine am_iconst (v := (0 : Int32)) (am_dec tmX12_meant_0 26 rfl) (by decide) ?_
          have hf := Option.some.inj hf
          subst hf
          exact am_iret (am_dec tmX12_meant_0 27 rfl) rfl (Nat.zero_le _) (Nat.zero_le _)
      replace hf := g65
      refine am_if_ne (tgt := 40) (am_dec tmX12_meant_0 19 rfl) (by decide) (fun c13 => ?_) (fun c13 => ?_)
      · rw [if_neg c13] at hf
        refine am_iconst (v := (0 : Int32)) (am_dec tmX12_meant_0 22 rfl) (by decide) ?_
        have hf := Option.some.inj hf
        subst hf
        exact am_pick [0, 1, 2] rfl key14
      · rw [if_pos c13] at hf
        refine am_iconst (v := (1 : Int32)) (am_dec tmX12_meant_0 20 rfl) (by decide) ?_
        refine am_goto (tgt := 41) (am_dec tmX12_meant_0 21 rfl) (by decide) ?_
        have hf := Option.some.inj hf
        subst hf
        exact am_pick [0, 1, 2] rfl key14
  replace hf := g66
  refine am_if_ne (tgt := 18) (am_dec tmX12_meant_0 7 rfl) (by decide) (fun c5 => ?_) (fun c5 => ?_)
  · rw [if_neg c5] at hf
    refine am_iconst (v := (0 : Int32)) (am_dec tmX12_meant_0 10 rfl) (by decide) ?_
    have hf := Option.some.inj hf
    subst hf
    exact am_pick [0, 1, 2] rfl key6
  · rw [if_pos c5] at hf
    refine am_iconst (v := (1 : Int32)) (am_dec tmX12_meant_0 8 rfl) (by decide) ?_
    refine am_goto (tgt := 19) (am_dec tmX12_meant_0 9 rfl) (by decide) ?_
    have hf := Option.some.inj hf
    subst hf
    exact am_pick [0, 1, 2] rfl key6
def f_X12_oneMark (p1 : Int32) (p2 : Int32) (D : am_D) : Option ((Int32 × am_D)) :=
    (am_gA 12 (0 : Int32)).bind fun j1 =>
    (am_pI D (121 + j1) 2 (0 : Int32) p1).bind fun D3 =>
    (am_gA 12 (0 : Int32)).bind fun j5 =>
    (am_pI D3 (121 + j5) 2 (1 : Int32) p2).bind fun D7 =>
    (f_X12_keepsMap (1 : Int32) D7).bind fun x10 =>
    some (x10.1, x10.2)
set_option maxRecDepth 100000 in
set_option maxHeartbeats 4000000 in
theorem c_X12_oneMark {E : am_E} (hE : am_EH E) {p1 : Int32} {p2 : Int32} {D : am_D} {r : (Int32 × am_D)}  (hf : f_X12_oneMark p1 p2 D = some r) : am_C E mX12_oneMark 2 0 0 [.ref 117, .int p1, .int p2] am_G0 D (.inl (some (.int r.1))) am_G0 r.2 := by
  refine am_C_of (by decide +kernel) (Nat.le_of_ble_eq_true rfl) ?_
  change am_S E mX12_oneMark 2 0 0 (.inl (some (.int r.1))) am_G0 r.2 0 0 0 [(0, .ref 117), (1, .int p1), (2, .int p2)] [] am_G0 D
  unfold f_X12_oneMark at hf
  refine am_aload_n (am_dec tmX12_oneMark 0 rfl) rfl rfl ?_
  refine am_getR (j := 11) hE (am_dec tmX12_oneMark 1 rfl) sh_117 cf12 (by decide) rfl lf_X12_22 rf_117_11 ?_
  refine am_iconst (v := (0 : Int32)) (am_dec tmX12_oneMark 2 rfl) (by decide) ?_
  obtain ⟨j1, g2, hf⟩ := am_bd hf
  have hj_j1 := (am_gA_lt g2).1
  refine am_aald2 (t := 6) hE (am_dec tmX12_oneMark 3 rfl) sh_120 (by decide) rfl rfl g2 (rr_120 hj_j1) ?_
  refine am_iconst (v := (0 : Int32)) (am_dec tmX12_oneMark 4 rfl) (by decide) ?_
  refine am_iload_n (am_dec tmX12_oneMark 5 rfl) rfl rfl ?_
  obtain ⟨D3, g4, hf⟩ := am_bd hf
  refine am_iast2 hE (am_dec tmX12_oneMark 6 rfl) (sa_120_0 hj_j1) g4 ?_
  refine am_aload_n (am_dec tmX12_oneMark 7 rfl) rfl rfl ?_
  refine am_getR (j := 11) hE (am_dec tmX12_oneMark 8 rfl) sh_117 cf12 (by decide) rfl lf_X12_22 rf_117_11 ?_
  refine am_iconst (v := (0 : Int32)) (am_dec tmX12_oneMark 9 rfl) (by decide) ?_
  obtain ⟨j5, g6, hf⟩ := am_bd hf
  have hj_j5 := (am_gA_lt g6).1
  refine am_aald2 (t := 6) hE (am_dec tmX12_oneMark 10 rfl) sh_120 (by decide) rfl rfl g6 (rr_120 hj_j5) ?_
  refine am_iconst (v := (1 : Int32)) (am_dec tmX12_oneMark 11 rfl) (by decide) ?_
  refine am_iload_n (am_dec tmX12_oneMark 12 rfl) rfl rfl ?_
  obtain ⟨D7, g8, hf⟩ := am_bd hf
  refine am_iast2 hE (am_dec tmX12_oneMark 13 rfl) (sa_120_0 hj_j5) g8 ?_
  refine am_aload_n (am_dec tmX12_oneMark 14 rfl) rfl rfl ?_
  refine am_iconst (v := (1 : Int32)) (am_dec tmX12_oneMark 15 rfl) (by decide) ?_
  obtain ⟨x10, g9, hf⟩ := am_bd hf
  refine am_callV1 (As := [.int (1 : Int32)]) (st := []) hE (am_dec tmX12_oneMark 16 rfl) ok_X12_keepsMap rfl lm_X12_214 in_X12_keepsMap se_X12_keepsMap sh_117 cf12 (c_X12_keepsMap hE g9) rfl (by decide) (Nat.le_of_ble_eq_true rfl) (Nat.zero_le _) (Nat.zero_le _) rfl ?_
  have hf := Option.some.inj hf
  subst hf
  exact am_iret (am_dec tmX12_oneMark 17 rfl) rfl (Nat.zero_le _) (Nat.zero_le _)
def f_X12_undo (p1 : Int32) (p2 : Int32) (D : am_D) : Option ((Int32 × am_D)) :=
    (some (am_wI D 117 0 (0 : Int32))).bind fun D1 =>
    (f_X12_isSound p1 D1).bind fun x4 =>
    (if x4 = 0 then
    some ((1 : Int32))
    else
    some ((0 : Int32))).bind fun w7 =>
    (f_X12_bad w7 (1 : Int32) D1).bind fun x9 =>
    if x9.1 = 0 then
    (f_X12_in p2 (400 : Int32) (6000 : Int32)).bind fun x12 =>
    (if x12 = 0 then
    some ((1 : Int32))
    else
    some ((0 : Int32))).bind fun w15 =>
    (f_X12_bad w15 (2 : Int32) x9.2).bind fun x17 =>
    if x17.1 = 0 then
    if (x17.2.1 117 13) = (5 : Int32) then
    some ((-1 : Int32), x17.2)
    else
    (f_X12_periodOf p1 x17.2).bind fun x21 =>
    if x21.1 = (-1 : Int32) then
    some ((-2 : Int32), x21.2)
    else
    (am_gI x21.2 139 5 p1).bind fun x23 =>
    (am_gI x21.2 139 5 p1).bind fun x25 =>
    (am_dv (x25 * p2) x21.1).bind fun x27 =>
    (f_X12_within x27 (1 : Int32) (1200 : Int32)).bind fun x30 =>
    (f_X12_oneMark x23 x30 x21.2).bind fun x32 =>
    some (x32.1, x32.2)
    else
    some ((0 : Int32), x17.2)
    else
    some ((0 : Int32), x9.2)
set_option maxRecDepth 100000 in
set_option maxHeartbeats 4000000 in
theorem c_X12_undo {E : am_E} (hE : am_EH E) {p1 : Int32} {p2 : Int32} {D : am_D} {r : (Int32 × am_D)}  (hf : f_X12_undo p1 p2 D = some r) : am_C E mX12_undo 3 0 0 [.ref 117, .int p1, .int p2] am_G0 D (.inl (some (.int r.1))) am_G0 r.2 := by
  refine am_C_of (by decide +kernel) (Nat.le_of_ble_eq_true rfl) ?_
  change am_S E mX12_undo 3 0 0 (.inl (some (.int r.1))) am_G0 r.2 0 0 0 [(0, .ref 117), (1, .int p1), (2, .int p2)] [] am_G0 D
  unfold f_X12_undo at hf
  refine am_aload_n (am_dec tmX12_undo_0 0 rfl) rfl rfl ?_
  refine am_iconst (v := (0 : Int32)) (am_dec tmX12_undo_0 1 rfl) (by decide) ?_
  obtain ⟨D1, g2, hf⟩ := am_bd hf
  refine am_putI2 (j := 0) hE (am_dec tmX12_undo_0 2 rfl) sh_117 cf12 (by decide) rfl lf_X12_110 rfl rfl rfl g2 ?_
  refine am_aload_n (am_dec tmX12_undo_0 3 rfl) rfl rfl ?_
  refine am_aload_n (am_dec tmX12_undo_0 4 rfl) rfl rfl ?_
  refine am_iload_n (am_dec tmX12_undo_0 5 rfl) rfl rfl ?_
  obtain ⟨x4, g3, hf⟩ := am_bd hf
  refine am_callV1 (As := [.int p1]) (st := [.ref 117]) hE (am_dec tmX12_undo_0 6 rfl) ok_X12_isSound rfl lm_X12_217 in_X12_isSound se_X12_isSound sh_117 cf12 (c_X12_isSound hE g3) rfl (by decide) (Nat.le_of_ble_eq_true rfl) (Nat.zero_le _) (Nat.zero_le _) rfl ?_
  obtain ⟨w7, g34, hf⟩ := am_bd hf
  have key6 : am_S E mX12_undo 3 0 0 (.inl (some (.int r.1))) am_G0 r.2 0 0 19 [(0, .ref 117), (1, .int p1), (2, .int p2)] [.int w7, .ref 117] am_G0 D1 := by
    refine am_iconst (v := (1 : Int32)) (am_dec tmX12_undo_0 11 rfl) (by decide) ?_
    obtain ⟨x9, g8, hf⟩ := am_bd hf
    refine am_callV1 (As := [.int w7, .int (1 : Int32)]) (st := []) hE (am_dec tmX12_undo_0 12 rfl) ok_X12_bad rfl lm_X12_191 in_X12_bad se_X12_bad sh_117 cf12 (c_X12_bad hE g8) rfl (by decide) (Nat.le_of_ble_eq_true rfl) (Nat.zero_le _) (Nat.zero_le _) rfl ?_
    refine am_if_ne (tgt := 52) (am_dec tmX12_undo_0 13 rfl) (by decide) (fun c10 => ?_) (fun c10 => ?_)
    · rw [if_neg c10] at hf
      refine am_iconst (v := (0 : Int32)) (am_dec tmX12_undo_0 26 rfl) (by decide) ?_
      have hf := Option.some.inj hf
      subst hf
      exact am_iret (am_dec tmX12_undo_0 27 rfl) rfl (Nat.zero_le _) (Nat.zero_le _)
    · rw [if_pos c10] at hf
      refine am_aload_n (am_dec tmX12_undo_0 14 rfl) rfl rfl ?_
      refine am_iload_n (am_dec tmX12_undo_0 15 rfl) rfl rfl ?_
      refine am_sipush (v := (400 : Int32)) (am_dec tmX12_undo_0 16 rfl) (by decide) ?_
      refine am_sipush (v := (6000 : Int32)) (am_dec tmX12_undo_0 17 rfl) (by decide) ?_
      obtain ⟨x12, g11, hf⟩ := am_bd hf
      refine am_callS1 (As := [.int p2, .int (400 : Int32), .int (6000 : Int32)]) (st := [.ref 117]) (am_dec tmX12_undo_0 18 rfl) ok_X12_in rfl lm_X12_144 st_X12_in (c_X12_in hE g11) rfl (by decide) (Nat.le_of_ble_eq_true rfl) (Nat.zero_le _) (Nat.zero_le _) rfl ?_
      obtain ⟨w15, g33, hf⟩ := am_bd hf
      have key14 : am_S E mX12_undo 3 0 0 (.inl (some (.int r.1))) am_G0 r.2 0 0 45 [(0, .ref 117), (1, .int p1), (2, .int p2)] [.int w15, .ref 117] am_G0 x9.2 := by
        refine am_iconst (v := (2 : Int32)) (am_dec tmX12_undo_0 23 rfl) (by decide) ?_
        obtain ⟨x17, g16, hf⟩ := am_bd hf
        refine am_callV1 (As := [.int w15, .int (2 : Int32)]) (st := []) hE (am_dec tmX12_undo_0 24 rfl) ok_X12_bad rfl lm_X12_191 in_X12_bad se_X12_bad sh_117 cf12 (c_X12_bad hE g16) rfl (by decide) (Nat.le_of_ble_eq_true rfl) (Nat.zero_le _) (Nat.zero_le _) rfl ?_
        refine am_if_eq (tgt := 54) (am_dec tmX12_undo_0 25 rfl) (by decide) (fun c18 => ?_) (fun c18 => ?_)
        · rw [if_pos c18] at hf
          refine am_aload_n (am_dec tmX12_undo_0 28 rfl) rfl rfl ?_
          refine am_getI (j := 13) hE (am_dec tmX12_undo_0 29 rfl) sh_117 cf12 (by decide) rfl lf_X12_208 ?_
          refine am_iconst (v := (5 : Int32)) (am_dec tmX12_undo_0 30 rfl) (by decide) ?_
          refine am_icmp_ne (tgt := 64) (am_dec tmX12_undo_0 31 rfl) (by decide) (fun c19 => ?_) (fun c19 => ?_)
          · rw [if_neg c19] at hf
            refine am_aload_n (am_dec tmX12_undo_0 34 rfl) rfl rfl ?_
            refine am_iload_n (am_dec tmX12_undo_0 35 rfl) rfl rfl ?_
            obtain ⟨x21, g20, hf⟩ := am_bd hf
            refine am_callV1 (As := [.int p1]) (st := []) hE (am_dec tmX12_undo_0 36 rfl) ok_X12_periodOf rfl lm_X12_368 in_X12_periodOf se_X12_periodOf sh_117 cf12 (c_X12_periodOf hE g20) rfl (by decide) (Nat.le_of_ble_eq_true rfl) (Nat.zero_le _) (Nat.zero_le _) rfl ?_
            refine am_istore_n (lv' := [(0, .ref 117), (1, .int p1), (2, .int p2), (3, .int x21.1)]) (am_dec tmX12_undo_0 37 rfl) rfl (by decide) rfl ?_
            refine am_iload_n (am_dec tmX12_undo_0 38 rfl) rfl rfl ?_
            refine am_iconst (v := (-1 : Int32)) (am_dec tmX12_undo_0 39 rfl) (by decide) ?_
            refine am_icmp_ne (tgt := 80) (am_dec tmX12_undo_0 40 rfl) (by decide) (fun c22 => ?_) (fun c22 => ?_)
            · rw [if_neg c22] at hf
              refine am_aload_n (am_dec tmX12_undo_0 43 rfl) rfl rfl ?_
              refine am_aload_n (am_dec tmX12_undo_0 44 rfl) rfl rfl ?_
              refine am_getR (j := 25) hE (am_dec tmX12_undo_0 45 rfl) sh_117 cf12 (by decide) rfl lf_X12_46 rf_117_25 ?_
              refine am_iload_n (am_dec tmX12_undo_0 46 rfl) rfl rfl ?_
              obtain ⟨x23, g24, hf⟩ := am_bd hf
              refine am_iald2 hE (am_dec tmX12_undo_0 47 rfl) sh_139 g24 ?_
              refine am_aload_n (am_dec tmX12_undo_0 48 rfl) rfl rfl ?_
              refine am_getR (j := 25) hE (am_dec tmX12_undo_0 49 rfl) sh_117 cf12 (by decide) rfl lf_X12_46 rf_117_25 ?_
              refine am_iload_n (am_dec tmX12_undo_0 50 rfl) rfl rfl ?_
              obtain ⟨x25, g26, hf⟩ := am_bd hf
              refine am_iald2 hE (am_dec tmX12_undo_0 51 rfl) sh_139 g26 ?_
              refine am_iload_n (am_dec tmX12_undo_0 52 rfl) rfl rfl ?_
              refine am_imul (am_dec tmX12_undo_0 53 rfl) ?_
              refine am_iload_n (am_dec tmX12_undo_0 54 rfl) rfl rfl ?_
              obtain ⟨x27, g28, hf⟩ := am_bd hf
              refine am_idiv2 (am_dec tmX12_undo_0 55 rfl) g28 ?_
              refine am_iconst (v := (1 : Int32)) (am_dec tmX12_undo_0 56 rfl) (by decide) ?_
              refine am_sipush (v := (1200 : Int32)) (am_dec tmX12_undo_0 57 rfl) (by decide) ?_
              obtain ⟨x30, g29, hf⟩ := am_bd hf
              refine am_callS1 (As := [.int x27, .int (1 : Int32), .int (1200 : Int32)]) (st := [.int x23, .ref 117]) (am_dec tmX12_undo_0 58 rfl) ok_X12_within rfl lm_X12_187 st_X12_within (c_X12_within hE g29) rfl (by decide) (Nat.le_of_ble_eq_true rfl) (Nat.zero_le _) (Nat.zero_le _) rfl ?_
              obtain ⟨x32, g31, hf⟩ := am_bd hf
              refine am_callV1 (As := [.int x23, .int x30]) (st := []) hE (am_dec tmX12_undo_0 59 rfl) ok_X12_oneMark rfl lm_X12_377 in_X12_oneMark se_X12_oneMark sh_117 cf12 (c_X12_oneMark hE g31) rfl (by decide) (Nat.le_of_ble_eq_true rfl) (Nat.zero_le _) (Nat.zero_le _) rfl ?_
              have hf := Option.some.inj hf
              subst hf
              exact am_iret (am_dec tmX12_undo_1 0 rfl) rfl (Nat.zero_le _) (Nat.zero_le _)
            · rw [if_pos c22] at hf
              refine am_bipush (v := (-2 : Int32)) (am_dec tmX12_undo_0 41 rfl) (by decide) ?_
              refine am_goto (tgt := 107) (am_dec tmX12_undo_0 42 rfl) (by decide) ?_
              have hf := Option.some.inj hf
              subst hf
              exact am_iret (am_dec tmX12_undo_1 0 rfl) rfl (Nat.zero_le _) (Nat.zero_le _)
          · rw [if_pos c19] at hf
            refine am_iconst (v := (-1 : Int32)) (am_dec tmX12_undo_0 32 rfl) (by decide) ?_
            have hf := Option.some.inj hf
            subst hf
            exact am_iret (am_dec tmX12_undo_0 33 rfl) rfl (Nat.zero_le _) (Nat.zero_le _)
        · rw [if_neg c18] at hf
          refine am_iconst (v := (0 : Int32)) (am_dec tmX12_undo_0 26 rfl) (by decide) ?_
          have hf := Option.some.inj hf
          subst hf
          exact am_iret (am_dec tmX12_undo_0 27 rfl) rfl (Nat.zero_le _) (Nat.zero_le _)
      replace hf := g33
      refine am_if_ne (tgt := 44) (am_dec tmX12_undo_0 19 rfl) (by decide) (fun c13 => ?_) (fun c13 => ?_)
      · rw [if_neg c13] at hf
        refine am_iconst (v := (0 : Int32)) (am_dec tmX12_undo_0 22 rfl) (by decide) ?_
        have hf := Option.some.inj hf
        subst hf
        exact am_pick [0, 1, 2] rfl key14
      · rw [if_pos c13] at hf
        refine am_iconst (v := (1 : Int32)) (am_dec tmX12_undo_0 20 rfl) (by decide) ?_
        refine am_goto (tgt := 45) (am_dec tmX12_undo_0 21 rfl) (by decide) ?_
        have hf := Option.some.inj hf
        subst hf
        exact am_pick [0, 1, 2] rfl key14
  replace hf := g34
  refine am_if_ne (tgt := 18) (am_dec tmX12_undo_0 7 rfl) (by decide) (fun c5 => ?_) (fun c5 => ?_)
  · rw [if_neg c5] at hf
    refine am_iconst (v := (0 : Int32)) (am_dec tmX12_undo_0 10 rfl) (by decide) ?_
    have hf := Option.some.inj hf
    subst hf
    exact am_pick [0, 1, 2] rfl key6
  · rw [if_pos c5] at hf
    refine am_iconst (v := (1 : Int32)) (am_dec tmX12_undo_0 8 rfl) (by decide) ?_
    refine am_goto (tgt := 19) (am_dec tmX12_undo_0 9 rfl) (by decide) ?_
    have hf := Option.some.inj hf
    subst hf
    exact am_pick [0, 1, 2] rfl key6
def f_X12_interval (p1 : Int32) (D : am_D) : Option (Int32) :=
    (am_gI D 2631 600 (p1 + (1 : Int32))).bind fun x1 =>
    (am_gI D 2631 600 p1).bind fun x3 =>
    some (x1 - x3)
set_option maxRecDepth 100000 in
set_option maxHeartbeats 4000000 in
theorem c_X12_interval {E : am_E} (hE : am_EH E) {p1 : Int32} {D : am_D} {r : Int32}  (hf : f_X12_interval p1 D = some r) : am_C E mX12_interval 1 0 0 [.ref 117, .int p1] am_G0 D (.inl (some (.int r))) am_G0 D := by
  refine am_C_of (by decide +kernel) (Nat.le_of_ble_eq_true rfl) ?_
  change am_S E mX12_interval 1 0 0 (.inl (some (.int r))) am_G0 D 0 0 0 [(0, .ref 117), (1, .int p1)] [] am_G0 D
  unfold f_X12_interval at hf
  refine am_aload_n (am_dec tmX12_interval 0 rfl) rfl rfl ?_
  refine am_getR (j := 53) hE (am_dec tmX12_interval 1 rfl) sh_117 cf12 (by decide) rfl lf_X12_100 rf_117_53 ?_
  refine am_iload_n (am_dec tmX12_interval 2 rfl) rfl rfl ?_
  refine am_iconst (v := (1 : Int32)) (am_dec tmX12_interval 3 rfl) (by decide) ?_
  refine am_iadd (am_dec tmX12_interval 4 rfl) ?_
  obtain ⟨x1, g2, hf⟩ := am_bd hf
  refine am_iald2 hE (am_dec tmX12_interval 5 rfl) sh_2631 g2 ?_
  refine am_aload_n (am_dec tmX12_interval 6 rfl) rfl rfl ?_
  refine am_getR (j := 53) hE (am_dec tmX12_interval 7 rfl) sh_117 cf12 (by decide) rfl lf_X12_100 rf_117_53 ?_
  refine am_iload_n (am_dec tmX12_interval 8 rfl) rfl rfl ?_
  obtain ⟨x3, g4, hf⟩ := am_bd hf
  refine am_iald2 hE (am_dec tmX12_interval 9 rfl) sh_2631 g4 ?_
  refine am_isub (am_dec tmX12_interval 10 rfl) ?_
  have hf := Option.some.inj hf
  subst hf
  exact am_iret (am_dec tmX12_interval 11 rfl) rfl (Nat.zero_le _) (Nat.zero_le _)
def f_X12_wobble_L83 (q2 : Int32) (q3 : Int32) (q6 : Int32) (q7 : Int32) (q8 : Int32) (D : am_D) : Nat → Int32 → Int32 → Int32 → Option (Int32 × Int32)
  | 0, _, _, _ => none
  | n + 1, v4, v5, v9 =>
    if q3 ≤ v9 then
    some (v4, v5)
    else
    (if v9 = 0 then
    (f_X12_interval v9 D).bind fun x30 =>
    some (x30)
    else
    (f_X12_interval v9 D).bind fun x26 =>
    (f_X12_less v4 x26).bind fun x28 =>
    some (x28)).bind fun w31 =>
    (f_X12_interval v9 D).bind fun x33 =>
    (f_X12_more v5 x33).bind fun x35 =>
    f_X12_wobble_L83 q2 q3 q6 q7 q8 D n w31 x35 (v9 + (1 : Int32))
def f_X12_wobble_L152 (q2 : Int32) (q3 : Int32) (q4 : Int32) (q5 : Int32) (q6 : Int32) (q7 : Int32) (q8 : Int32) (q9 : Int32) (D : am_D) : Nat → Int32 → Int32 → Option (Int32)
  | 0, _, _ => none
  | n + 1, v10, v11 =>
    if q3 ≤ (v11 + q9) then
    some (v10)
    else
    (f_X12_interval v11 D).bind fun x41 =>
    (f_X12_interval (v11 + q9) D).bind fun x43 =>
    (f_X12_amount (x41 - x43)).bind fun x45 =>
    f_X12_wobble_L152 q2 q3 q4 q5 q6 q7 q8 q9 D n (v10 + x45) (v11 + (1 : Int32))
def f_X12_wobble_L138 (q2 : Int32) (q3 : Int32) (q4 : Int32) (q5 : Int32) (D : am_D) : Nat → Int32 → Int32 → Int32 → Int32 → Option (Int32)
  | 0, _, _, _, _ => none
  | n + 1, v6, v7, v8, v9 =>
    if (q3 / (2 : Int32)) < v9 then
    some (v6)
    else
    (f_X12_wobble_L152 q2 q3 q4 q5 v6 v7 v8 v9 D am_fu (0 : Int32) (0 : Int32)).bind fun e46 =>
    (if v6 = (-1 : Int32) then
    some (v9, e46, (q3 - v9))
    else
    if (e46 * v8) < (v7 * (q3 - v9)) then
    some (v9, e46, (q3 - v9))
    else
    some (v6, v7, v8)).bind fun w50 =>
    f_X12_wobble_L138 q2 q3 q4 q5 D n w50.1 w50.2.1 w50.2.2 (v9 + (1 : Int32))
def f_X12_wobble (p1 : Int32) (p2 : Int32) (D : am_D) : Option ((Int32 × am_D)) :=
    (some (am_wI D 117 0 (0 : Int32))).bind fun D1 =>
    (f_X12_isSound p1 D1).bind fun x4 =>
    (if x4 = 0 then
    some ((1 : Int32))
    else
    some ((0 : Int32))).bind fun w7 =>
    (f_X12_bad w7 (1 : Int32) D1).bind fun x9 =>
    if x9.1 = 0 then
    (f_X12_in p2 (0 : Int32) (1 : Int32)).bind fun x12 =>
    (if x12 = 0 then
    some ((1 : Int32))
    else
    some ((0 : Int32))).bind fun w15 =>
    (f_X12_bad w15 (2 : Int32) x9.2).bind fun x17 =>
    if x17.1 = 0 then
    (f_X12_findCrossings p1 x17.2).bind fun x20 =>
    if (2 : Int32) ≤ (x20.1 - (1 : Int32)) then
    (f_X12_wobble_L83 p2 (x20.1 - (1 : Int32)) (-1 : Int32) (0 : Int32) (1 : Int32) x20.2 am_fu (0 : Int32) (0 : Int32) (0 : Int32)).bind fun e37 =>
    (f_X12_wobble_L138 p2 (x20.1 - (1 : Int32)) e37.1 e37.2 x20.2 am_fu (-1 : Int32) (0 : Int32) (1 : Int32) (1 : Int32)).bind fun e53 =>
    if p2 = 0 then
    some (e53, x20.2)
    else
    some ((e37.2 - e37.1), x20.2)
    else
    some ((-1 : Int32), x20.2)
    else
    some ((0 : Int32), x17.2)
    else
    some ((0 : Int32), x9.2)
set_option maxRecDepth 100000 in
set_option maxHeartbeats 4000000 in
theorem l_X12_wobble_L83 {E : am_E} (hE : am_EH E) {d mc ms : Nat} {o : am_O} {G2 : am_G} {D2 : am_D} (hdp : 3 ≤ d) {q2 : Int32} {q3 : Int32} {q6 : Int32} {q7 : Int32} {q8 : Int32} {D : am_D}  : ∀ (n : Nat) (v4 : Int32) (v5 : Int32) (v9 : Int32) (ex0 : Int32 × Int32), f_X12_wobble_L83 q2 q3 q6 q7 q8 D n v4 v5 v9 = some ex0 → (∀ ex : Int32 × Int32, ex0 = ex → am_S E mX12_wobble d mc ms o G2 D2 0 0 135 [(0, .ref 117), (2, .int q2), (3, .int q3), (4, .int ex.1), (5, .int ex.2), (6, .int q6), (7, .int q7), (8, .int q8)] [] am_G0 D) → am_S E mX12_wobble d mc ms o G2 D2 0 0 83 [(0, .ref 117), (2, .int q2), (3, .int q3), (4, .int v4), (5, .int v5), (6, .int q6), (7, .int q7), (8, .int q8), (9, .int v9)] [] am_G0 D
  | 0, _, _, _, _, hf, _ => by
    unfold f_X12_wobble_L83 at hf
    cases hf
  | n + 1, v4, v5, v9, ex0, hf, hk0 => by
    unfold f_X12_wobble_L83 at hf
    refine am_iload (am_dec tmX12_wobble_0 51 rfl) rfl ?_
    refine am_iload_n (am_dec tmX12_wobble_0 52 rfl) rfl rfl ?_
    refine am_icmp_ge (tgt := 135) (am_dec tmX12_wobble_0 53 rfl) (by decide) (fun c22 => ?_) (fun c22 => ?_)
    · rw [if_pos c22] at hf
      have hf := Option.some.inj hf
      subst hf
      exact am_pick [0, 1, 2, 3, 4, 5, 6, 7] rfl (hk0 _ rfl)
    · rw [if_neg c22] at hf
      refine am_iload (am_dec tmX12_wobble_0 54 rfl) rfl ?_
      obtain ⟨w31, g36, hf⟩ := am_bd hf
      have key24 : am_S E mX12_wobble d mc ms o G2 D2 0 0 114 [(0, .ref 117), (2, .int q2), (3, .int q3), (5, .int v5), (6, .int q6), (7, .int q7), (8, .int q8), (9, .int v9)] [.int w31] am_G0 D := by
        refine am_istore (lv' := [(0, .ref 117), (2, .int q2), (3, .int q3), (4, .int w31), (5, .int v5), (6, .int q6), (7, .int q7), (8, .int q8), (9, .int v9)]) (am_dec tmX12_wobble_1 5 rfl) (by decide) rfl ?_
        refine am_iload (am_dec tmX12_wobble_1 6 rfl) rfl ?_
        refine am_aload_n (am_dec tmX12_wobble_1 7 rfl) rfl rfl ?_
        refine am_iload (am_dec tmX12_wobble_1 8 rfl) rfl ?_
        obtain ⟨x33, g32, hf⟩ := am_bd hf
        refine am_callV1 (As := [.int v9]) (st := [.int v5]) hE (am_dec tmX12_wobble_1 9 rfl) ok_X12_interval rfl lm_X12_380 in_X12_interval se_X12_interval sh_117 cf12 (c_X12_interval hE g32) rfl (Nat.lt_of_lt_of_le (by decide) hdp) (Nat.le_of_ble_eq_true rfl) (Nat.zero_le _) (Nat.zero_le _) rfl ?_
        obtain ⟨x35, g34, hf⟩ := am_bd hf
        refine am_callS1 (As := [.int v5, .int x33]) (st := []) (am_dec tmX12_wobble_1 10 rfl) ok_X12_more rfl lm_X12_306 st_X12_more (c_X12_more hE g34) rfl (Nat.lt_of_lt_of_le (by decide) hdp) (Nat.le_of_ble_eq_true rfl) (Nat.zero_le _) (Nat.zero_le _) rfl ?_
        refine am_istore (lv' := [(0, .ref 117), (2, .int q2), (3, .int q3), (4, .int w31), (5, .int x35), (6, .int q6), (7, .int q7), (8, .int q8), (9, .int v9)]) (am_dec tmX12_wobble_1 11 rfl) (by decide) rfl ?_
        refine am_iinc (v := (1 : Int32)) (lv' := [(0, .ref 117), (2, .int q2), (3, .int q3), (4, .int w31), (5, .int x35), (6, .int q6), (7, .int q7), (8, .int q8), (9, .int (v9 + (1 : Int32)))]) (am_dec tmX12_wobble_1 12 rfl) rfl (by decide) (by decide) rfl ?_
        refine am_goto (tgt := 83) (am_dec tmX12_wobble_1 13 rfl) (by decide) ?_
        exact am_pick [0, 1, 2, 3, 4, 5, 6, 7, 8] rfl (l_X12_wobble_L83 hE hdp n w31 x35 (v9 + (1 : Int32)) ex0 hf hk0)
      replace hf := g36
      refine am_if_ne (tgt := 103) (am_dec tmX12_wobble_0 55 rfl) (by decide) (fun c23 => ?_) (fun c23 => ?_)
      · rw [if_neg c23] at hf
        refine am_iload (am_dec tmX12_wobble_1 0 rfl) rfl ?_
        refine am_aload_n (am_dec tmX12_wobble_1 1 rfl) rfl rfl ?_
        refine am_iload (am_dec tmX12_wobble_1 2 rfl) rfl ?_
        obtain ⟨x26, g25, hf⟩ := am_bd hf
        refine am_callV1 (As := [.int v9]) (st := [.int v4]) hE (am_dec tmX12_wobble_1 3 rfl) ok_X12_interval rfl lm_X12_380 in_X12_interval se_X12_interval sh_117 cf12 (c_X12_interval hE g25) rfl (Nat.lt_of_lt_of_le (by decide) hdp) (Nat.le_of_ble_eq_true rfl) (Nat.zero_le _) (Nat.zero_le _) rfl ?_
        obtain ⟨x28, g27, hf⟩ := am_bd hf
        refine am_callS1 (As := [.int v4, .int x26]) (st := []) (am_dec tmX12_wobble_1 4 rfl) ok_X12_less rfl lm_X12_374 st_X12_less (c_X12_less hE g27) rfl (Nat.lt_of_lt_of_le (by decide) hdp) (Nat.le_of_ble_eq_true rfl) (Nat.zero_le _) (Nat.zero_le _) rfl ?_
        have hf := Option.some.inj hf
        subst hf
        exact am_pick [0, 1, 2, 4, 5, 6, 7, 8] rfl key24
      · rw [if_pos c23] at hf
        refine am_aload_n (am_dec tmX12_wobble_0 56 rfl) rfl rfl ?_
        refine am_iload (am_dec tmX12_wobble_0 57 rfl) rfl ?_
        obtain ⟨x30, g29, hf⟩ := am_bd hf
        refine am_callV1 (As := [.int v9]) (st := []) hE (am_dec tmX12_wobble_0 58 rfl) ok_X12_interval rfl lm_X12_380 in_X12_interval se_X12_interval sh_117 cf12 (c_X12_interval hE g29) rfl (Nat.lt_of_lt_of_le (by decide) hdp) (Nat.le_of_ble_eq_true rfl) (Nat.zero_le _) (Nat.zero_le _) rfl ?_
        refine am_goto (tgt := 114) (am_dec tmX12_wobble_0 59 rfl) (by decide) ?_
        have hf := Option.some.inj hf
        subst hf
        exact am_pick [0, 1, 2, 4, 5, 6, 7, 8] rfl key24
set_option maxRecDepth 100000 in
set_option maxHeartbeats 4000000 in
theorem l_X12_wobble_L152 {E : am_E} (hE : am_EH E) {d mc ms : Nat} {o : am_O} {G2 : am_G} {D2 : am_D} (hdp : 3 ≤ d) {q2 : Int32} {q3 : Int32} {q4 : Int32} {q5 : Int32} {q6 : Int32} {q7 : Int32} {q8 : Int32} {q9 : Int32} {D : am_D}  : ∀ (n : Nat) (v10 : Int32) (v11 : Int32) (ex0 : Int32), f_X12_wobble_L152 q2 q3 q4 q5 q6 q7 q8 q9 D n v10 v11 = some ex0 → (∀ ex : Int32, ex0 = ex → am_S E mX12_wobble d mc ms o G2 D2 0 0 191 [(0, .ref 117), (2, .int q2), (3, .int q3), (4, .int q4), (5, .int q5), (6, .int q6), (7, .int q7), (8, .int q8), (9, .int q9), (10, .int ex)] [] am_G0 D) → am_S E mX12_wobble d mc ms o G2 D2 0 0 152 [(0, .ref 117), (2, .int q2), (3, .int q3), (4, .int q4), (5, .int q5), (6, .int q6), (7, .int q7), (8, .int q8), (9, .int q9), (10, .int v10), (11, .int v11)] [] am_G0 D
  | 0, _, _, _, hf, _ => by
    unfold f_X12_wobble_L152 at hf
    cases hf
  | n + 1, v10, v11, ex0, hf, hk0 => by
    unfold f_X12_wobble_L152 at hf
    refine am_iload (am_dec tmX12_wobble_1 25 rfl) rfl ?_
    refine am_iload (am_dec tmX12_wobble_1 26 rfl) rfl ?_
    refine am_iadd (am_dec tmX12_wobble_1 27 rfl) ?_
    refine am_iload_n (am_dec tmX12_wobble_1 28 rfl) rfl rfl ?_
    refine am_icmp_ge (tgt := 191) (am_dec tmX12_wobble_1 29 rfl) (by decide) (fun c39 => ?_) (fun c39 => ?_)
    · rw [if_pos c39] at hf
      have hf := Option.some.inj hf
      subst hf
      exact am_pick [0, 1, 2, 3, 4, 5, 6, 7, 8, 9] rfl (hk0 _ rfl)
    · rw [if_neg c39] at hf
      refine am_iload (am_dec tmX12_wobble_1 30 rfl) rfl ?_
      refine am_aload_n (am_dec tmX12_wobble_1 31 rfl) rfl rfl ?_
      refine am_iload (am_dec tmX12_wobble_1 32 rfl) rfl ?_
      obtain ⟨x41, g40, hf⟩ := am_bd hf
      refine am_callV1 (As := [.int v11]) (st := [.int v10]) hE (am_dec tmX12_wobble_1 33 rfl) ok_X12_interval rfl lm_X12_380 in_X12_interval se_X12_interval sh_117 cf12 (c_X12_interval hE g40) rfl (Nat.lt_of_lt_of_le (by decide) hdp) (Nat.le_of_ble_eq_true rfl) (Nat.zero_le _) (Nat.zero_le _) rfl ?_
      refine am_aload_n (am_dec tmX12_wobble_1 34 rfl) rfl rfl ?_
      refine am_iload (am_dec tmX12_wobble_1 35 rfl) rfl ?_
      refine am_iload (am_dec tmX12_wobble_1 36 rfl) rfl ?_
      refine am_iadd (am_dec tmX12_wobble_1 37 rfl) ?_
      obtain ⟨x43, g42, hf⟩ := am_bd hf
      refine am_callV1 (As := [.int (v11 + q9)]) (st := [.int x41, .int v10]) hE (am_dec tmX12_wobble_1 38 rfl) ok_X12_interval rfl lm_X12_380 in_X12_interval se_X12_interval sh_117 cf12 (c_X12_interval hE g42) rfl (Nat.lt_of_lt_of_le (by decide) hdp) (Nat.le_of_ble_eq_true rfl) (Nat.zero_le _) (Nat.zero_le _) rfl ?_
      refine am_isub (am_dec tmX12_wobble_1 39 rfl) ?_
      obtain ⟨x45, g44, hf⟩ := am_bd hf
      refine am_callS1 (As := [.int (x41 - x43)]) (st := [.int v10]) (am_dec tmX12_wobble_1 40 rfl) ok_X12_amount rfl lm_X12_281 st_X12_amount (c_X12_amount hE g44) rfl (Nat.lt_of_lt_of_le (by decide) hdp) (Nat.le_of_ble_eq_true rfl) (Nat.zero_le _) (Nat.zero_le _) rfl ?_
      refine am_iadd (am_dec tmX12_wobble_1 41 rfl) ?_
      refine am_istore (lv' := [(0, .ref 117), (2, .int q2), (3, .int q3), (4, .int q4), (5, .int q5), (6, .int q6), (7, .int q7), (8, .int q8), (9, .int q9), (10, .int (v10 + x45)), (11, .int v11)]) (am_dec tmX12_wobble_1 42 rfl) (by decide) rfl ?_
      refine am_iinc (v := (1 : Int32)) (lv' := [(0, .ref 117), (2, .int q2), (3, .int q3), (4, .int q4), (5, .int q5), (6, .int q6), (7, .int q7), (8, .int q8), (9, .int q9), (10, .int (v10 + x45)), (11, .int (v11 + (1 : Int32)))]) (am_dec tmX12_wobble_1 43 rfl) rfl (by decide) (by decide) rfl ?_
      refine am_goto (tgt := 152) (am_dec tmX12_wobble_1 44 rfl) (by decide) ?_
      exact am_pick [0, 1, 2, 3, 4, 5, 6, 7, 8, 9, 10] rfl (l_X12_wobble_L152 hE hdp n (v10 + x45) (v11 + (1 : Int32)) ex0 hf hk0)
set_option maxRecDepth 100000 in
set_option maxHeartbeats 4000000 in
theorem l_X12_wobble_L138 {E : am_E} (hE : am_EH E) {d mc ms : Nat} {o : am_O} {G2 : am_G} {D2 : am_D} (hdp : 3 ≤ d) {q2 : Int32} {q3 : Int32} {q4 : Int32} {q5 : Int32} {D : am_D}  : ∀ (n : Nat) (v6 : Int32) (v7 : Int32) (v8 : Int32) (v9 : Int32) (ex0 : Int32), f_X12_wobble_L138 q2 q3 q4 q5 D n v6 v7 v8 v9 = some ex0 → (∀ ex : Int32, ex0 = ex → am_S E mX12_wobble d mc ms o G2 D2 0 0 235 [(2, .int q2), (4, .int q4), (5, .int q5), (6, .int ex)] [] am_G0 D) → am_S E mX12_wobble d mc ms o G2 D2 0 0 138 [(0, .ref 117), (2, .int q2), (3, .int q3), (4, .int q4), (5, .int q5), (6, .int v6), (7, .int v7), (8, .int v8), (9, .int v9)] [] am_G0 D
  | 0, _, _, _, _, _, hf, _ => by
    unfold f_X12_wobble_L138 at hf
    cases hf
  | n + 1, v6, v7, v8, v9, ex0, hf, hk0 => by
    unfold f_X12_wobble_L138 at hf
    refine am_iload (am_dec tmX12_wobble_1 16 rfl) rfl ?_
    refine am_iload_n (am_dec tmX12_wobble_1 17 rfl) rfl rfl ?_
    refine am_iconst (v := (2 : Int32)) (am_dec tmX12_wobble_1 18 rfl) (by decide) ?_
    refine am_idiv (am_dec tmX12_wobble_1 19 rfl) (by decide) ?_
    refine am_icmp_gt (tgt := 235) (am_dec tmX12_wobble_1 20 rfl) (by decide) (fun c38 => ?_) (fun c38 => ?_)
    · rw [if_pos c38] at hf
      have hf := Option.some.inj hf
      subst hf
      exact am_pick [1, 3, 4, 5] rfl (hk0 _ rfl)
    · rw [if_neg c38] at hf
      refine am_iconst (v := (0 : Int32)) (am_dec tmX12_wobble_1 21 rfl) (by decide) ?_
      refine am_istore (lv' := [(0, .ref 117), (2, .int q2), (3, .int q3), (4, .int q4), (5, .int q5), (6, .int v6), (7, .int v7), (8, .int v8), (9, .int v9), (10, .int (0 : Int32))]) (am_dec tmX12_wobble_1 22 rfl) (by decide) rfl ?_
      refine am_iconst (v := (0 : Int32)) (am_dec tmX12_wobble_1 23 rfl) (by decide) ?_
      refine am_istore (lv' := [(0, .ref 117), (2, .int q2), (3, .int q3), (4, .int q4), (5, .int q5), (6, .int v6), (7, .int v7), (8, .int v8), (9, .int v9), (10, .int (0 : Int32)), (11, .int (0 : Int32))]) (am_dec tmX12_wobble_1 24 rfl) (by decide) rfl ?_
      obtain ⟨e46, g52, hf⟩ := am_bd hf
      refine am_pick [0, 1, 2, 3, 4, 5, 6, 7, 8, 9, 10] rfl (l_X12_wobble_L152 hE hdp am_fu _ _ _ g52 (fun ex he => ?_))
      subst he
      refine am_iload (am_dec tmX12_wobble_1 45 rfl) rfl ?_
      refine am_iconst (v := (-1 : Int32)) (am_dec tmX12_wobble_1 46 rfl) (by decide) ?_
      obtain ⟨w50, g51, hf⟩ := am_bd hf
      have key48 : am_S E mX12_wobble d mc ms o G2 D2 0 0 229 [(0, .ref 117), (2, .int q2), (3, .int q3), (4, .int q4), (5, .int q5), (6, .int w50.1), (7, .int w50.2.1), (8, .int w50.2.2), (9, .int v9)] [] am_G0 D := by
        refine am_iinc (v := (1 : Int32)) (lv' := [(0, .ref 117), (2, .int q2), (3, .int q3), (4, .int q4), (5, .int q5), (6, .int w50.1), (7, .int w50.2.1), (8, .int w50.2.2), (9, .int (v9 + (1 : Int32)))]) (am_dec tmX12_wobble_2 6 rfl) rfl (by decide) (by decide) rfl ?_
        refine am_goto (tgt := 138) (am_dec tmX12_wobble_2 7 rfl) (by decide) ?_
        exact am_pick [0, 1, 2, 3, 4, 5, 6, 7, 8] rfl (l_X12_wobble_L138 hE hdp n w50.1 w50.2.1 w50.2.2 (v9 + (1 : Int32)) ex0 hf hk0)
      replace hf := g51
      refine am_icmp_eq (tgt := 215) (am_dec tmX12_wobble_1 47 rfl) (by decide) (fun c47 => ?_) (fun c47 => ?_)
      · rw [if_pos c47] at hf
        refine am_iload (am_dec tmX12_wobble_1 58 rfl) rfl ?_
        refine am_istore (lv' := [(0, .ref 117), (2, .int q2), (3, .int q3), (4, .int q4), (5, .int q5), (6, .int v9), (7, .int v7), (8, .int v8), (9, .int v9), (10, .int e46)]) (am_dec tmX12_wobble_1 59 rfl) (by decide) rfl ?_
        refine am_iload (am_dec tmX12_wobble_2 0 rfl) rfl ?_
        refine am_istore (lv' := [(0, .ref 117), (2, .int q2), (3, .int q3), (4, .int q4), (5, .int q5), (6, .int v9), (7, .int e46), (8, .int v8), (9, .int v9), (10, .int e46)]) (am_dec tmX12_wobble_2 1 rfl) (by decide) rfl ?_
        refine am_iload_n (am_dec tmX12_wobble_2 2 rfl) rfl rfl ?_
        refine am_iload (am_dec tmX12_wobble_2 3 rfl) rfl ?_
        refine am_isub (am_dec tmX12_wobble_2 4 rfl) ?_
        refine am_istore (lv' := [(0, .ref 117), (2, .int q2), (3, .int q3), (4, .int q4), (5, .int q5), (6, .int v9), (7, .int e46), (8, .int (q3 - v9)), (9, .int v9), (10, .int e46)]) (am_dec tmX12_wobble_2 5 rfl) (by decide) rfl ?_
        have hf := Option.some.inj hf
        subst hf
        exact am_pick [0, 1, 2, 3, 4, 5, 6, 7, 8] rfl key48
      · rw [if_neg c47] at hf
        refine am_iload (am_dec tmX12_wobble_1 48 rfl) rfl ?_
        refine am_iload (am_dec tmX12_wobble_1 49 rfl) rfl ?_
        refine am_imul (am_dec tmX12_wobble_1 50 rfl) ?_
        refine am_iload (am_dec tmX12_wobble_1 51 rfl) rfl ?_
        refine am_iload_n (am_dec tmX12_wobble_1 52 rfl) rfl rfl ?_
        refine am_iload (am_dec tmX12_wobble_1 53 rfl) rfl ?_
        refine am_isub (am_dec tmX12_wobble_1 54 rfl) ?_
        refine am_imul (am_dec tmX12_wobble_1 55 rfl) ?_
        refine am_icmp_lt (tgt := 215) (am_dec tmX12_wobble_1 56 rfl) (by decide) (fun c49 => ?_) (fun c49 => ?_)
        · rw [if_pos c49] at hf
          refine am_iload (am_dec tmX12_wobble_1 58 rfl) rfl ?_
          refine am_istore (lv' := [(0, .ref 117), (2, .int q2), (3, .int q3), (4, .int q4), (5, .int q5), (6, .int v9), (7, .int v7), (8, .int v8), (9, .int v9), (10, .int e46)]) (am_dec tmX12_wobble_1 59 rfl) (by decide) rfl ?_
          refine am_iload (am_dec tmX12_wobble_2 0 rfl) rfl ?_
          refine am_istore (lv' := [(0, .ref 117), (2, .int q2), (3, .int q3), (4, .int q4), (5, .int q5), (6, .int v9), (7, .int e46), (8, .int v8), (9, .int v9), (10, .int e46)]) (am_dec tmX12_wobble_2 1 rfl) (by decide) rfl ?_
          refine am_iload_n (am_dec tmX12_wobble_2 2 rfl) rfl rfl ?_
          refine am_iload (am_dec tmX12_wobble_2 3 rfl) rfl ?_
          refine am_isub (am_dec tmX12_wobble_2 4 rfl) ?_
          refine am_istore (lv' := [(0, .ref 117), (2, .int q2), (3, .int q3), (4, .int q4), (5, .int q5), (6, .int v9), (7, .int e46), (8, .int (q3 - v9)), (9, .int v9), (10, .int e46)]) (am_dec tmX12_wobble_2 5 rfl) (by decide) rfl ?_
          have hf := Option.some.inj hf
          subst hf
          exact am_pick [0, 1, 2, 3, 4, 5, 6, 7, 8] rfl key48
        · rw [if_neg c49] at hf
          refine am_goto (tgt := 229) (am_dec tmX12_wobble_1 57 rfl) (by decide) ?_
          have hf := Option.some.inj hf
          subst hf
          exact am_pick [0, 1, 2, 3, 4, 5, 6, 7, 8] rfl key48
set_option maxRecDepth 100000 in
set_option maxHeartbeats 4000000 in
theorem c_X12_wobble {E : am_E} (hE : am_EH E) {p1 : Int32} {p2 : Int32} {D : am_D} {r : (Int32 × am_D)}  (hf : f_X12_wobble p1 p2 D = some r) : am_C E mX12_wobble 3 0 0 [.ref 117, .int p1, .int p2] am_G0 D (.inl (some (.int r.1))) am_G0 r.2 := by
  refine am_C_of (by decide +kernel) (Nat.le_of_ble_eq_true rfl) ?_
  change am_S E mX12_wobble 3 0 0 (.inl (some (.int r.1))) am_G0 r.2 0 0 0 [(0, .ref 117), (1, .int p1), (2, .int p2)] [] am_G0 D
  unfold f_X12_wobble at hf
  refine am_aload_n (am_dec tmX12_wobble_0 0 rfl) rfl rfl ?_
  refine am_iconst (v := (0 : Int32)) (am_dec tmX12_wobble_0 1 rfl) (by decide) ?_
  obtain ⟨D1, g2, hf⟩ := am_bd hf
  refine am_putI2 (j := 0) hE (am_dec tmX12_wobble_0 2 rfl) sh_117 cf12 (by decide) rfl lf_X12_110 rfl rfl rfl g2 ?_
  refine am_aload_n (am_dec tmX12_wobble_0 3 rfl) rfl rfl ?_
  refine am_aload_n (am_dec tmX12_wobble_0 4 rfl) rfl rfl ?_
  refine am_iload_n (am_dec tmX12_wobble_0 5 rfl) rfl rfl ?_
  obtain ⟨x4, g3, hf⟩ := am_bd hf
  refine am_callV1 (As := [.int p1]) (st := [.ref 117]) hE (am_dec tmX12_wobble_0 6 rfl) ok_X12_isSound rfl lm_X12_217 in_X12_isSound se_X12_isSound sh_117 cf12 (c_X12_isSound hE g3) rfl (by decide) (Nat.le_of_ble_eq_true rfl) (Nat.zero_le _) (Nat.zero_le _) rfl ?_
  obtain ⟨w7, g58, hf⟩ := am_bd hf
  have key6 : am_S E mX12_wobble 3 0 0 (.inl (some (.int r.1))) am_G0 r.2 0 0 19 [(0, .ref 117), (1, .int p1), (2, .int p2)] [.int w7, .ref 117] am_G0 D1 := by
    refine am_iconst (v := (1 : Int32)) (am_dec tmX12_wobble_0 11 rfl) (by decide) ?_
    obtain ⟨x9, g8, hf⟩ := am_bd hf
    refine am_callV1 (As := [.int w7, .int (1 : Int32)]) (st := []) hE (am_dec tmX12_wobble_0 12 rfl) ok_X12_bad rfl lm_X12_191 in_X12_bad se_X12_bad sh_117 cf12 (c_X12_bad hE g8) rfl (by decide) (Nat.le_of_ble_eq_true rfl) (Nat.zero_le _) (Nat.zero_le _) rfl ?_
    refine am_if_ne (tgt := 48) (am_dec tmX12_wobble_0 13 rfl) (by decide) (fun c10 => ?_) (fun c10 => ?_)
    · rw [if_neg c10] at hf
      refine am_iconst (v := (0 : Int32)) (am_dec tmX12_wobble_0 26 rfl) (by decide) ?_
      have hf := Option.some.inj hf
      subst hf
      exact am_iret (am_dec tmX12_wobble_0 27 rfl) rfl (Nat.zero_le _) (Nat.zero_le _)
    · rw [if_pos c10] at hf
      refine am_aload_n (am_dec tmX12_wobble_0 14 rfl) rfl rfl ?_
      refine am_iload_n (am_dec tmX12_wobble_0 15 rfl) rfl rfl ?_
      refine am_iconst (v := (0 : Int32)) (am_dec tmX12_wobble_0 16 rfl) (by decide) ?_
      refine am_iconst (v := (1 : Int32)) (am_dec tmX12_wobble_0 17 rfl) (by decide) ?_
      obtain ⟨x12, g11, hf⟩ := am_bd hf
      refine am_callS1 (As := [.int p2, .int (0 : Int32), .int (1 : Int32)]) (st := [.ref 117]) (am_dec tmX12_wobble_0 18 rfl) ok_X12_in rfl lm_X12_144 st_X12_in (c_X12_in hE g11) rfl (by decide) (Nat.le_of_ble_eq_true rfl) (Nat.zero_le _) (Nat.zero_le _) rfl ?_
      obtain ⟨w15, g57, hf⟩ := am_bd hf
      have key14 : am_S E mX12_wobble 3 0 0 (.inl (some (.int r.1))) am_G0 r.2 0 0 41 [(0, .ref 117), (1, .int p1), (2, .int p2)] [.int w15, .ref 117] am_G0 x9.2 := by
        refine am_iconst (v := (2 : Int32)) (am_dec tmX12_wobble_0 23 rfl) (by decide) ?_
        obtain ⟨x17, g16, hf⟩ := am_bd hf
        refine am_callV1 (As := [.int w15, .int (2 : Int32)]) (st := []) hE (am_dec tmX12_wobble_0 24 rfl) ok_X12_bad rfl lm_X12_191 in_X12_bad se_X12_bad sh_117 cf12 (c_X12_bad hE g16) rfl (by decide) (Nat.le_of_ble_eq_true rfl) (Nat.zero_le _) (Nat.zero_le _) rfl ?_
        refine am_if_eq (tgt := 50) (am_dec tmX12_wobble_0 25 rfl) (by decide) (fun c18 => ?_) (fun c18 => ?_)
        · rw [if_pos c18] at hf
          refine am_aload_n (am_dec tmX12_wobble_0 28 rfl) rfl rfl ?_
          refine am_iload_n (am_dec tmX12_wobble_0 29 rfl) rfl rfl ?_
          obtain ⟨x20, g19, hf⟩ := am_bd hf
          refine am_callV1 (As := [.int p1]) (st := []) hE (am_dec tmX12_wobble_0 30 rfl) ok_X12_findCrossings rfl lm_X12_365 in_X12_findCrossings se_X12_findCrossings sh_117 cf12 (c_X12_findCrossings hE g19) rfl (by decide) (Nat.le_of_ble_eq_true rfl) (Nat.zero_le _) (Nat.zero_le _) rfl ?_
          refine am_iconst (v := (1 : Int32)) (am_dec tmX12_wobble_0 31 rfl) (by decide) ?_
          refine am_isub (am_dec tmX12_wobble_0 32 rfl) ?_
          refine am_istore_n (lv' := [(0, .ref 117), (1, .int p1), (2, .int p2), (3, .int (x20.1 - (1 : Int32)))]) (am_dec tmX12_wobble_0 33 rfl) rfl (by decide) rfl ?_
          refine am_iconst (v := (0 : Int32)) (am_dec tmX12_wobble_0 34 rfl) (by decide) ?_
          refine am_istore (lv' := [(0, .ref 117), (1, .int p1), (2, .int p2), (3, .int (x20.1 - (1 : Int32))), (4, .int (0 : Int32))]) (am_dec tmX12_wobble_0 35 rfl) (by decide) rfl ?_
          refine am_iconst (v := (0 : Int32)) (am_dec tmX12_wobble_0 36 rfl) (by decide) ?_
          refine am_istore (lv' := [(0, .ref 117), (1, .int p1), (2, .int p2), (3, .int (x20.1 - (1 : Int32))), (4, .int (0 : Int32)), (5, .int (0 : Int32))]) (am_dec tmX12_wobble_0 37 rfl) (by decide) rfl ?_
          refine am_iconst (v := (-1 : Int32)) (am_dec tmX12_wobble_0 38 rfl) (by decide) ?_
          refine am_istore (lv' := [(0, .ref 117), (1, .int p1), (2, .int p2), (3, .int (x20.1 - (1 : Int32))), (4, .int (0 : Int32)), (5, .int (0 : Int32)), (6, .int (-1 : Int32))]) (am_dec tmX12_wobble_0 39 rfl) (by decide) rfl ?_
          refine am_iconst (v := (0 : Int32)) (am_dec tmX12_wobble_0 40 rfl) (by decide) ?_
          refine am_istore (lv' := [(0, .ref 117), (1, .int p1), (2, .int p2), (3, .int (x20.1 - (1 : Int32))), (4, .int (0 : Int32)), (5, .int (0 : Int32)), (6, .int (-1 : Int32)), (7, .int (0 : Int32))]) (am_dec tmX12_wobble_0 41 rfl) (by decide) rfl ?_
          refine am_iconst (v := (1 : Int32)) (am_dec tmX12_wobble_0 42 rfl) (by decide) ?_
          refine am_istore (lv' := [(0, .ref 117), (1, .int p1), (2, .int p2), (3, .int (x20.1 - (1 : Int32))), (4, .int (0 : Int32)), (5, .int (0 : Int32)), (6, .int (-1 : Int32)), (7, .int (0 : Int32)), (8, .int (1 : Int32))]) (am_dec tmX12_wobble_0 43 rfl) (by decide) rfl ?_
          refine am_iload_n (am_dec tmX12_wobble_0 44 rfl) rfl rfl ?_
          refine am_iconst (v := (2 : Int32)) (am_dec tmX12_wobble_0 45 rfl) (by decide) ?_
          refine am_icmp_ge (tgt := 80) (am_dec tmX12_wobble_0 46 rfl) (by decide) (fun c21 => ?_) (fun c21 => ?_)
          · rw [if_pos c21] at hf
            refine am_iconst (v := (0 : Int32)) (am_dec tmX12_wobble_0 49 rfl) (by decide) ?_
            refine am_istore (lv' := [(0, .ref 117), (1, .int p1), (2, .int p2), (3, .int (x20.1 - (1 : Int32))), (4, .int (0 : Int32)), (5, .int (0 : Int32)), (6, .int (-1 : Int32)), (7, .int (0 : Int32)), (8, .int (1 : Int32)), (9, .int (0 : Int32))]) (am_dec tmX12_wobble_0 50 rfl) (by decide) rfl ?_
            obtain ⟨e37, g56, hf⟩ := am_bd hf
            refine am_pick [0, 2, 3, 4, 5, 6, 7, 8, 9] rfl (l_X12_wobble_L83 hE (Nat.le_refl _) am_fu _ _ _ _ g56 (fun ex he => ?_))
            subst he
            refine am_iconst (v := (1 : Int32)) (am_dec tmX12_wobble_1 14 rfl) (by decide) ?_
            refine am_istore (lv' := [(0, .ref 117), (2, .int p2), (3, .int (x20.1 - (1 : Int32))), (4, .int e37.1), (5, .int e37.2), (6, .int (-1 : Int32)), (7, .int (0 : Int32)), (8, .int (1 : Int32)), (9, .int (1 : Int32))]) (am_dec tmX12_wobble_1 15 rfl) (by decide) rfl ?_
            obtain ⟨e53, g55, hf⟩ := am_bd hf
            refine am_pick [0, 1, 2, 3, 4, 5, 6, 7, 8] rfl (l_X12_wobble_L138 hE (Nat.le_refl _) am_fu _ _ _ _ _ g55 (fun ex he => ?_))
            subst he
            refine am_iload_n (am_dec tmX12_wobble_2 8 rfl) rfl rfl ?_
            refine am_if_ne (tgt := 244) (am_dec tmX12_wobble_2 9 rfl) (by decide) (fun c54 => ?_) (fun c54 => ?_)
            · rw [if_neg c54] at hf
              refine am_iload (am_dec tmX12_wobble_2 12 rfl) rfl ?_
              refine am_iload (am_dec tmX12_wobble_2 13 rfl) rfl ?_
              refine am_isub (am_dec tmX12_wobble_2 14 rfl) ?_
              have hf := Option.some.inj hf
              subst hf
              exact am_iret (am_dec tmX12_wobble_2 15 rfl) rfl (Nat.zero_le _) (Nat.zero_le _)
            · rw [if_pos c54] at hf
              refine am_iload (am_dec tmX12_wobble_2 10 rfl) rfl ?_
              refine am_goto (tgt := 249) (am_dec tmX12_wobble_2 11 rfl) (by decide) ?_
              have hf := Option.some.inj hf
              subst hf
              exact am_iret (am_dec tmX12_wobble_2 15 rfl) rfl (Nat.zero_le _) (Nat.zero_le _)
          · rw [if_neg c21] at hf
            refine am_iconst (v := (-1 : Int32)) (am_dec tmX12_wobble_0 47 rfl) (by decide) ?_
            have hf := Option.some.inj hf
            subst hf
            exact am_iret (am_dec tmX12_wobble_0 48 rfl) rfl (Nat.zero_le _) (Nat.zero_le _)
        · rw [if_neg c18] at hf
          refine am_iconst (v := (0 : Int32)) (am_dec tmX12_wobble_0 26 rfl) (by decide) ?_
          have hf := Option.some.inj hf
          subst hf
          exact am_iret (am_dec tmX12_wobble_0 27 rfl) rfl (Nat.zero_le _) (Nat.zero_le _)
      replace hf := g57
      refine am_if_ne (tgt := 40) (am_dec tmX12_wobble_0 19 rfl) (by decide) (fun c13 => ?_) (fun c13 => ?_)
      · rw [if_neg c13] at hf
        refine am_iconst (v := (0 : Int32)) (am_dec tmX12_wobble_0 22 rfl) (by decide) ?_
        have hf := Option.some.inj hf
        subst hf
        exact am_pick [0, 1, 2] rfl key14
      · rw [if_pos c13] at hf
        refine am_iconst (v := (1 : Int32)) (am_dec tmX12_wobble_0 20 rfl) (by decide) ?_
        refine am_goto (tgt := 41) (am_dec tmX12_wobble_0 21 rfl) (by decide) ?_
        have hf := Option.some.inj hf
        subst hf
        exact am_pick [0, 1, 2] rfl key14
  replace hf := g58
  refine am_if_ne (tgt := 18) (am_dec tmX12_wobble_0 7 rfl) (by decide) (fun c5 => ?_) (fun c5 => ?_)
  · rw [if_neg c5] at hf
    refine am_iconst (v := (0 : Int32)) (am_dec tmX12_wobble_0 10 rfl) (by decide) ?_
    have hf := Option.some.inj hf
    subst hf
    exact am_pick [0, 1, 2] rfl key6
  · rw [if_pos c5] at hf
    refine am_iconst (v := (1 : Int32)) (am_dec tmX12_wobble_0 8 rfl) (by decide) ?_
    refine am_goto (tgt := 19) (am_dec tmX12_wobble_0 9 rfl) (by decide) ?_
    have hf := Option.some.inj hf
    subst hf
    exact am_pick [0, 1, 2] rfl key6
def f_X12_offBy_L6 (q1 : Int32) (q2 : Int32) (q3 : Int32) (D : am_D) : Nat → Int32 → Int32 → Option (Int32)
  | 0, _, _ => none
  | n + 1, v4, v5 =>
    if q1 ≤ v5 then
    some (v4)
    else
    (am_gI D 2629 1200 v5).bind fun x2 =>
    (am_rm (x2 - q3) q2).bind fun x4 =>
    (am_rm (x4 + q2) q2).bind fun x6 =>
    (f_X12_less x6 (q2 - x6)).bind fun x9 =>
    f_X12_offBy_L6 q1 q2 q3 D n (v4 + x9) (v5 + (1 : Int32))
def f_X12_offBy (p1 : Int32) (p2 : Int32) (p3 : Int32) (D : am_D) : Option (Int32) :=
    (f_X12_offBy_L6 p1 p2 p3 D am_fu (0 : Int32) (0 : Int32)).bind fun e10 =>
    some e10
set_option maxRecDepth 100000 in
set_option maxHeartbeats 4000000 in
theorem l_X12_offBy_L6 {E : am_E} (hE : am_EH E) {d mc ms : Nat} {o : am_O} {G2 : am_G} {D2 : am_D} (hdp : 2 ≤ d) {q1 : Int32} {q2 : Int32} {q3 : Int32} {D : am_D}  : ∀ (n : Nat) (v4 : Int32) (v5 : Int32) (ex0 : Int32), f_X12_offBy_L6 q1 q2 q3 D n v4 v5 = some ex0 → (∀ ex : Int32, ex0 = ex → am_S E mX12_offBy d mc ms o G2 D2 0 0 49 [(4, .int ex)] [] am_G0 D) → am_S E mX12_offBy d mc ms o G2 D2 0 0 6 [(0, .ref 117), (1, .int q1), (2, .int q2), (3, .int q3), (4, .int v4), (5, .int v5)] [] am_G0 D
  | 0, _, _, _, hf, _ => by
    unfold f_X12_offBy_L6 at hf
    cases hf
  | n + 1, v4, v5, ex0, hf, hk0 => by
    unfold f_X12_offBy_L6 at hf
    refine am_iload (am_dec tmX12_offBy 4 rfl) rfl ?_
    refine am_iload_n (am_dec tmX12_offBy 5 rfl) rfl rfl ?_
    refine am_icmp_ge (tgt := 49) (am_dec tmX12_offBy 6 rfl) (by decide) (fun c1 => ?_) (fun c1 => ?_)
    · rw [if_pos c1] at hf
      have hf := Option.some.inj hf
      subst hf
      exact am_pick [4] rfl (hk0 _ rfl)
    · rw [if_neg c1] at hf
      refine am_aload_n (am_dec tmX12_offBy 7 rfl) rfl rfl ?_
      refine am_getR (j := 51) hE (am_dec tmX12_offBy 8 rfl) sh_117 cf12 (by decide) rfl lf_X12_94 rf_117_51 ?_
      refine am_iload (am_dec tmX12_offBy 9 rfl) rfl ?_
      obtain ⟨x2, g3, hf⟩ := am_bd hf
      refine am_iald2 hE (am_dec tmX12_offBy 10 rfl) sh_2629 g3 ?_
      refine am_iload_n (am_dec tmX12_offBy 11 rfl) rfl rfl ?_
      refine am_isub (am_dec tmX12_offBy 12 rfl) ?_
      refine am_iload_n (am_dec tmX12_offBy 13 rfl) rfl rfl ?_
      obtain ⟨x4, g5, hf⟩ := am_bd hf
      refine am_irem2 (am_dec tmX12_offBy 14 rfl) g5 ?_
      refine am_iload_n (am_dec tmX12_offBy 15 rfl) rfl rfl ?_
      refine am_iadd (am_dec tmX12_offBy 16 rfl) ?_
      refine am_iload_n (am_dec tmX12_offBy 17 rfl) rfl rfl ?_
      obtain ⟨x6, g7, hf⟩ := am_bd hf
      refine am_irem2 (am_dec tmX12_offBy 18 rfl) g7 ?_
      refine am_istore (lv' := [(0, .ref 117), (1, .int q1), (2, .int q2), (3, .int q3), (4, .int v4), (5, .int v5), (6, .int x6)]) (am_dec tmX12_offBy 19 rfl) (by decide) rfl ?_
      refine am_iload (am_dec tmX12_offBy 20 rfl) rfl ?_
      refine am_iload (am_dec tmX12_offBy 21 rfl) rfl ?_
      refine am_iload_n (am_dec tmX12_offBy 22 rfl) rfl rfl ?_
      refine am_iload (am_dec tmX12_offBy 23 rfl) rfl ?_
      refine am_isub (am_dec tmX12_offBy 24 rfl) ?_
      obtain ⟨x9, g8, hf⟩ := am_bd hf
      refine am_callS1 (As := [.int x6, .int (q2 - x6)]) (st := [.int v4]) (am_dec tmX12_offBy 25 rfl) ok_X12_less rfl lm_X12_374 st_X12_less (c_X12_less hE g8) rfl (Nat.lt_of_lt_of_le (by decide) hdp) (Nat.le_of_ble_eq_true rfl) (Nat.zero_le _) (Nat.zero_le _) rfl ?_
      refine am_iadd (am_dec tmX12_offBy 26 rfl) ?_
      refine am_istore (lv' := [(0, .ref 117), (1, .int q1), (2, .int q2), (3, .int q3), (4, .int (v4 + x9)), (5, .int v5), (6, .int x6)]) (am_dec tmX12_offBy 27 rfl) (by decide) rfl ?_
      refine am_iinc (v := (1 : Int32)) (lv' := [(0, .ref 117), (1, .int q1), (2, .int q2), (3, .int q3), (4, .int (v4 + x9)), (5, .int (v5 + (1 : Int32))), (6, .int x6)]) (am_dec tmX12_offBy 28 rfl) rfl (by decide) (by decide) rfl ?_
      refine am_goto (tgt := 6) (am_dec tmX12_offBy 29 rfl) (by decide) ?_
      exact am_pick [0, 1, 2, 3, 4, 5] rfl (l_X12_offBy_L6 hE hdp n (v4 + x9) (v5 + (1 : Int32)) ex0 hf hk0)
set_option maxRecDepth 100000 in
set_option maxHeartbeats 4000000 in
theorem c_X12_offBy {E : am_E} (hE : am_EH E) {p1 : Int32} {p2 : Int32} {p3 : Int32} {D : am_D} {r : Int32}  (hf : f_X12_offBy p1 p2 p3 D = some r) : am_C E mX12_offBy 2 0 0 [.ref 117, .int p1, .int p2, .int p3] am_G0 D (.inl (some (.int r))) am_G0 D := by
  refine am_C_of (by decide +kernel) (Nat.le_of_ble_eq_true rfl) ?_
  change am_S E mX12_offBy 2 0 0 (.inl (some (.int r))) am_G0 D 0 0 0 [(0, .ref 117), (1, .int p1), (2, .int p2), (3, .int p3)] [] am_G0 D
  unfold f_X12_offBy at hf
  refine am_iconst (v := (0 : Int32)) (am_dec tmX12_offBy 0 rfl) (by decide) ?_
  refine am_istore (lv' := [(0, .ref 117), (1, .int p1), (2, .int p2), (3, .int p3), (4, .int (0 : Int32))]) (am_dec tmX12_offBy 1 rfl) (by decide) rfl ?_
  refine am_iconst (v := (0 : Int32)) (am_dec tmX12_offBy 2 rfl) (by decide) ?_
  refine am_istore (lv' := [(0, .ref 117), (1, .int p1), (2, .int p2), (3, .int p3), (4, .int (0 : Int32)), (5, .int (0 : Int32))]) (am_dec tmX12_offBy 3 rfl) (by decide) rfl ?_
  obtain ⟨e10, g11, hf⟩ := am_bd hf
  refine am_pick [0, 1, 2, 3, 4, 5] rfl (l_X12_offBy_L6 hE (Nat.le_refl _) am_fu _ _ _ g11 (fun ex he => ?_))
  subst he
  refine am_iload (am_dec tmX12_offBy 30 rfl) rfl ?_
  have hf := Option.some.inj hf
  subst hf
  exact am_iret (am_dec tmX12_offBy 31 rfl) rfl (Nat.zero_le _) (Nat.zero_le _)
def f_X12_beatOf_L21 (q1 : Int32) (q5 : Int32) (D : am_D) : Nat → Int32 → Int32 → Int32 → Int32 → Option (Int32 × Int32 × Int32)
  | 0, _, _, _, _ => none
  | n + 1, v2, v3, v4, v6 =>
    if q5 ≤ v6 then
    some (v2, v3, v4)
    else
    (f_X12_offBy q1 q5 v6 D).bind fun x4 =>
    (if v2 = (-1 : Int32) then
    some ((((200 : Int32) * q5) + v6), x4, q5)
    else
    if (x4 * v4) < (v3 * q5) then
    some ((((200 : Int32) * q5) + v6), x4, q5)
    else
    some (v2, v3, v4)).bind fun w8 =>
    f_X12_beatOf_L21 q1 q5 D n w8.1 w8.2.1 w8.2.2 (v6 + (1 : Int32))
def f_X12_beatOf_L12 (q1 : Int32) (D : am_D) : Nat → Int32 → Int32 → Int32 → Int32 → Option (Int32)
  | 0, _, _, _, _ => none
  | n + 1, v2, v3, v4, v5 =>
    if v5 < (4 : Int32) then
    some (v2)
    else
    (f_X12_beatOf_L21 q1 v5 D am_fu v2 v3 v4 (0 : Int32)).bind fun e10 =>
    f_X12_beatOf_L12 q1 D n e10.1 e10.2.1 e10.2.2 (v5 + (-1 : Int32))
def f_X12_beatOf (p1 : Int32) (D : am_D) : Option (Int32) :=
    (f_X12_beatOf_L12 p1 D am_fu (-1 : Int32) (0 : Int32) (1 : Int32) (200 : Int32)).bind fun e12 =>
    some e12
set_option maxRecDepth 100000 in
set_option maxHeartbeats 4000000 in
theorem l_X12_beatOf_L21 {E : am_E} (hE : am_EH E) {d mc ms : Nat} {o : am_O} {G2 : am_G} {D2 : am_D} (hdp : 3 ≤ d) {q1 : Int32} {q5 : Int32} {D : am_D}  : ∀ (n : Nat) (v2 : Int32) (v3 : Int32) (v4 : Int32) (v6 : Int32) (ex0 : Int32 × Int32 × Int32), f_X12_beatOf_L21 q1 q5 D n v2 v3 v4 v6 = some ex0 → (∀ ex : Int32 × Int32 × Int32, ex0 = ex → am_S E mX12_beatOf d mc ms o G2 D2 0 0 82 [(0, .ref 117), (1, .int q1), (2, .int ex.1), (3, .int ex.2.1), (4, .int ex.2.2), (5, .int q5)] [] am_G0 D) → am_S E mX12_beatOf d mc ms o G2 D2 0 0 21 [(0, .ref 117), (1, .int q1), (2, .int v2), (3, .int v3), (4, .int v4), (5, .int q5), (6, .int v6)] [] am_G0 D
  | 0, _, _, _, _, _, hf, _ => by
    unfold f_X12_beatOf_L21 at hf
    cases hf
  | n + 1, v2, v3, v4, v6, ex0, hf, hk0 => by
    unfold f_X12_beatOf_L21 at hf
    refine am_iload (am_dec tmX12_beatOf 13 rfl) rfl ?_
    refine am_iload (am_dec tmX12_beatOf 14 rfl) rfl ?_
    refine am_icmp_ge (tgt := 82) (am_dec tmX12_beatOf 15 rfl) (by decide) (fun c2 => ?_) (fun c2 => ?_)
    · rw [if_pos c2] at hf
      have hf := Option.some.inj hf
      subst hf
      exact am_pick [0, 1, 2, 3, 4, 5] rfl (hk0 _ rfl)
    · rw [if_neg c2] at hf
      refine am_aload_n (am_dec tmX12_beatOf 16 rfl) rfl rfl ?_
      refine am_iload_n (am_dec tmX12_beatOf 17 rfl) rfl rfl ?_
      refine am_iload (am_dec tmX12_beatOf 18 rfl) rfl ?_
      refine am_iload (am_dec tmX12_beatOf 19 rfl) rfl ?_
      obtain ⟨x4, g3, hf⟩ := am_bd hf
      refine am_callV1 (As := [.int q1, .int q5, .int v6]) (st := []) hE (am_dec tmX12_beatOf 20 rfl) ok_X12_offBy rfl lm_X12_383 in_X12_offBy se_X12_offBy sh_117 cf12 (c_X12_offBy hE g3) rfl (Nat.lt_of_lt_of_le (by decide) hdp) (Nat.le_of_ble_eq_true rfl) (Nat.zero_le _) (Nat.zero_le _) rfl ?_
      refine am_istore (lv' := [(0, .ref 117), (1, .int q1), (2, .int v2), (3, .int v3), (4, .int v4), (5, .int q5), (6, .int v6), (7, .int x4)]) (am_dec tmX12_beatOf 21 rfl) (by decide) rfl ?_
      refine am_iload_n (am_dec tmX12_beatOf 22 rfl) rfl rfl ?_
      refine am_iconst (v := (-1 : Int32)) (am_dec tmX12_beatOf 23 rfl) (by decide) ?_
      obtain ⟨w8, g9, hf⟩ := am_bd hf
      have key6 : am_S E mX12_beatOf d mc ms o G2 D2 0 0 76 [(0, .ref 117), (1, .int q1), (2, .int w8.1), (3, .int w8.2.1), (4, .int w8.2.2), (5, .int q5), (6, .int v6)] [] am_G0 D := by
        refine am_iinc (v := (1 : Int32)) (lv' := [(0, .ref 117), (1, .int q1), (2, .int w8.1), (3, .int w8.2.1), (4, .int w8.2.2), (5, .int q5), (6, .int (v6 + (1 : Int32)))]) (am_dec tmX12_beatOf 43 rfl) rfl (by decide) (by decide) rfl ?_
        refine am_goto (tgt := 21) (am_dec tmX12_beatOf 44 rfl) (by decide) ?_
        exact am_pick [0, 1, 2, 3, 4, 5, 6] rfl (l_X12_beatOf_L21 hE hdp n w8.1 w8.2.1 w8.2.2 (v6 + (1 : Int32)) ex0 hf hk0)
      replace hf := g9
      refine am_icmp_eq (tgt := 59) (am_dec tmX12_beatOf 24 rfl) (by decide) (fun c5 => ?_) (fun c5 => ?_)
      · rw [if_pos c5] at hf
        refine am_sipush (v := (200 : Int32)) (am_dec tmX12_beatOf 33 rfl) (by decide) ?_
        refine am_iload (am_dec tmX12_beatOf 34 rfl) rfl ?_
        refine am_imul (am_dec tmX12_beatOf 35 rfl) ?_
        refine am_iload (am_dec tmX12_beatOf 36 rfl) rfl ?_
        refine am_iadd (am_dec tmX12_beatOf 37 rfl) ?_
        refine am_istore_n (lv' := [(0, .ref 117), (1, .int q1), (2, .int (((200 : Int32) * q5) + v6)), (3, .int v3), (4, .int v4), (5, .int q5), (6, .int v6), (7, .int x4)]) (am_dec tmX12_beatOf 38 rfl) rfl (by decide) rfl ?_
        refine am_iload (am_dec tmX12_beatOf 39 rfl) rfl ?_
        refine am_istore_n (lv' := [(0, .ref 117), (1, .int q1), (2, .int (((200 : Int32) * q5) + v6)), (3, .int x4), (4, .int v4), (5, .int q5), (6, .int v6), (7, .int x4)]) (am_dec tmX12_beatOf 40 rfl) rfl (by decide) rfl ?_
        refine am_iload (am_dec tmX12_beatOf 41 rfl) rfl ?_
        refine am_istore (lv' := [(0, .ref 117), (1, .int q1), (2, .int (((200 : Int32) * q5) + v6)), (3, .int x4), (4, .int q5), (5, .int q5), (6, .int v6), (7, .int x4)]) (am_dec tmX12_beatOf 42 rfl) (by decide) rfl ?_
        have hf := Option.some.inj hf
        subst hf
        exact am_pick [0, 1, 2, 3, 4, 5, 6] rfl key6
      · rw [if_neg c5] at hf
        refine am_iload (am_dec tmX12_beatOf 25 rfl) rfl ?_
        refine am_iload (am_dec tmX12_beatOf 26 rfl) rfl ?_
        refine am_imul (am_dec tmX12_beatOf 27 rfl) ?_
        refine am_iload_n (am_dec tmX12_beatOf 28 rfl) rfl rfl ?_
        refine am_iload (am_dec tmX12_beatOf 29 rfl) rfl ?_
        refine am_imul (am_dec tmX12_beatOf 30 rfl) ?_
        refine am_icmp_lt (tgt := 59) (am_dec tmX12_beatOf 31 rfl) (by decide) (fun c7 => ?_) (fun c7 => ?_)
        · rw [if_pos c7] at hf
          refine am_sipush (v := (200 : Int32)) (am_dec tmX12_beatOf 33 rfl) (by decide) ?_
          refine am_iload (am_dec tmX12_beatOf 34 rfl) rfl ?_
          refine am_imul (am_dec tmX12_beatOf 35 rfl) ?_
          refine am_iload (am_dec tmX12_beatOf 36 rfl) rfl ?_
          refine am_iadd (am_dec tmX12_beatOf 37 rfl) ?_
          refine am_istore_n (lv' := [(0, .ref 117), (1, .int q1), (2, .int (((200 : Int32) * q5) + v6)), (3, .int v3), (4, .int v4), (5, .int q5), (6, .int v6), (7, .int x4)]) (am_dec tmX12_beatOf 38 rfl) rfl (by decide) rfl ?_
          refine am_iload (am_dec tmX12_beatOf 39 rfl) rfl ?_
          refine am_istore_n (lv' := [(0, .ref 117), (1, .int q1), (2, .int (((200 : Int32) * q5) + v6)), (3, .int x4), (4, .int v4), (5, .int q5), (6, .int v6), (7, .int x4)]) (am_dec tmX12_beatOf 40 rfl) rfl (by decide) rfl ?_
          refine am_iload (am_dec tmX12_beatOf 41 rfl) rfl ?_
          refine am_istore (lv' := [(0, .ref 117), (1, .int q1), (2, .int (((200 : Int32) * q5) + v6)), (3, .int x4), (4, .int q5), (5, .int q5), (6, .int v6), (7, .int x4)]) (am_dec tmX12_beatOf 42 rfl) (by decide) rfl ?_
          have hf := Option.some.inj hf
          subst hf
          exact am_pick [0, 1, 2, 3, 4, 5, 6] rfl key6
        · rw [if_neg c7] at hf
          refine am_goto (tgt := 76) (am_dec tmX12_beatOf 32 rfl) (by decide) ?_
          have hf := Option.some.inj hf
          subst hf
          exact am_pick [0, 1, 2, 3, 4, 5, 6] rfl key6
set_option maxRecDepth 100000 in
set_option maxHeartbeats 4000000 in
theorem l_X12_beatOf_L12 {E : am_E} (hE : am_EH E) {d mc ms : Nat} {o : am_O} {G2 : am_G} {D2 : am_D} (hdp : 3 ≤ d) {q1 : Int32} {D : am_D}  : ∀ (n : Nat) (v2 : Int32) (v3 : Int32) (v4 : Int32) (v5 : Int32) (ex0 : Int32), f_X12_beatOf_L12 q1 D n v2 v3 v4 v5 = some ex0 → (∀ ex : Int32, ex0 = ex → am_S E mX12_beatOf d mc ms o G2 D2 0 0 88 [(2, .int ex)] [] am_G0 D) → am_S E mX12_beatOf d mc ms o G2 D2 0 0 12 [(0, .ref 117), (1, .int q1), (2, .int v2), (3, .int v3), (4, .int v4), (5, .int v5)] [] am_G0 D
  | 0, _, _, _, _, _, hf, _ => by
    unfold f_X12_beatOf_L12 at hf
    cases hf
  | n + 1, v2, v3, v4, v5, ex0, hf, hk0 => by
    unfold f_X12_beatOf_L12 at hf
    refine am_iload (am_dec tmX12_beatOf 8 rfl) rfl ?_
    refine am_iconst (v := (4 : Int32)) (am_dec tmX12_beatOf 9 rfl) (by decide) ?_
    refine am_icmp_lt (tgt := 88) (am_dec tmX12_beatOf 10 rfl) (by decide) (fun c1 => ?_) (fun c1 => ?_)
    · rw [if_pos c1] at hf
      have hf := Option.some.inj hf
      subst hf
      exact am_pick [2] rfl (hk0 _ rfl)
    · rw [if_neg c1] at hf
      refine am_iconst (v := (0 : Int32)) (am_dec tmX12_beatOf 11 rfl) (by decide) ?_
      refine am_istore (lv' := [(0, .ref 117), (1, .int q1), (2, .int v2), (3, .int v3), (4, .int v4), (5, .int v5), (6, .int (0 : Int32))]) (am_dec tmX12_beatOf 12 rfl) (by decide) rfl ?_
      obtain ⟨e10, g11, hf⟩ := am_bd hf
      refine am_pick [0, 1, 2, 3, 4, 5, 6] rfl (l_X12_beatOf_L21 hE hdp am_fu _ _ _ _ _ g11 (fun ex he => ?_))
      subst he
      refine am_iinc (v := (-1 : Int32)) (lv' := [(0, .ref 117), (1, .int q1), (2, .int e10.1), (3, .int e10.2.1), (4, .int e10.2.2), (5, .int (v5 + (-1 : Int32)))]) (am_dec tmX12_beatOf 45 rfl) rfl (by decide) (by decide) rfl ?_
      refine am_goto (tgt := 12) (am_dec tmX12_beatOf 46 rfl) (by decide) ?_
      exact am_pick [0, 1, 2, 3, 4, 5] rfl (l_X12_beatOf_L12 hE hdp n e10.1 e10.2.1 e10.2.2 (v5 + (-1 : Int32)) ex0 hf hk0)
set_option maxRecDepth 100000 in
set_option maxHeartbeats 4000000 in
theorem c_X12_beatOf {E : am_E} (hE : am_EH E) {p1 : Int32} {D : am_D} {r : Int32}  (hf : f_X12_beatOf p1 D = some r) : am_C E mX12_beatOf 3 0 0 [.ref 117, .int p1] am_G0 D (.inl (some (.int r))) am_G0 D := by
  refine am_C_of (by decide +kernel) (Nat.le_of_ble_eq_true rfl) ?_
  change am_S E mX12_beatOf 3 0 0 (.inl (some (.int r))) am_G0 D 0 0 0 [(0, .ref 117), (1, .int p1)] [] am_G0 D
  unfold f_X12_beatOf at hf
  refine am_iconst (v := (-1 : Int32)) (am_dec tmX12_beatOf 0 rfl) (by decide) ?_
  refine am_istore_n (lv' := [(0, .ref 117), (1, .int p1), (2, .int (-1 : Int32))]) (am_dec tmX12_beatOf 1 rfl) rfl (by decide) rfl ?_
  refine am_iconst (v := (0 : Int32)) (am_dec tmX12_beatOf 2 rfl) (by decide) ?_
  refine am_istore_n (lv' := [(0, .ref 117), (1, .int p1), (2, .int (-1 : Int32)), (3, .int (0 : Int32))]) (am_dec tmX12_beatOf 3 rfl) rfl (by decide) rfl ?_
  refine am_iconst (v := (1 : Int32)) (am_dec tmX12_beatOf 4 rfl) (by decide) ?_
  refine am_istore (lv' := [(0, .ref 117), (1, .int p1), (2, .int (-1 : Int32)), (3, .int (0 : Int32)), (4, .int (1 : Int32))]) (am_dec tmX12_beatOf 5 rfl) (by decide) rfl ?_
  refine am_sipush (v := (200 : Int32)) (am_dec tmX12_beatOf 6 rfl) (by decide) ?_
  refine am_istore (lv' := [(0, .ref 117), (1, .int p1), (2, .int (-1 : Int32)), (3, .int (0 : Int32)), (4, .int (1 : Int32)), (5, .int (200 : Int32))]) (am_dec tmX12_beatOf 7 rfl) (by decide) rfl ?_
  obtain ⟨e12, g13, hf⟩ := am_bd hf
  refine am_pick [0, 1, 2, 3, 4, 5] rfl (l_X12_beatOf_L12 hE (Nat.le_refl _) am_fu _ _ _ _ _ g13 (fun ex he => ?_))
  subst he
  refine am_iload_n (am_dec tmX12_beatOf 47 rfl) rfl rfl ?_
  have hf := Option.some.inj hf
  subst hf
  exact am_iret (am_dec tmX12_beatOf 48 rfl) rfl (Nat.zero_le _) (Nat.zero_le _)
def f_X12_beat (p1 : Int32) (p2 : Int32) (D : am_D) : Option ((Int32 × am_D)) :=
    (some (am_wI D 117 0 (0 : Int32))).bind fun D1 =>
    (f_X12_isSound p1 D1).bind fun x4 =>
    (if x4 = 0 then
    some ((1 : Int32))
    else
    some ((0 : Int32))).bind fun w7 =>
    (f_X12_bad w7 (1 : Int32) D1).bind fun x9 =>
    if x9.1 = 0 then
    (f_X12_in p2 (0 : Int32) (2 : Int32)).bind fun x12 =>
    (if x12 = 0 then
    some ((1 : Int32))
    else
    some ((0 : Int32))).bind fun w15 =>
    (f_X12_bad w15 (2 : Int32) x9.2).bind fun x17 =>
    if x17.1 = 0 then
    (am_gA 5 p1).bind fun j19 =>
    (am_gI x17.2 139 5 p1).bind fun x21 =>
    (f_X12_findBlows (134 + j19) x21 x17.2).bind fun x24 =>
    if (2 : Int32) ≤ x24.1 then
    (f_X12_beatOf x24.1 x24.2).bind fun x27 =>
    if p2 = 0 then
    some ((x27 / (200 : Int32)), x24.2)
    else
    if p2 = (1 : Int32) then
    (am_rm x27 (200 : Int32)).bind fun x34 =>
    some (x34, x24.2)
    else
    (am_rm x27 (200 : Int32)).bind fun x30 =>
    (f_X12_offBy x24.1 (x27 / (200 : Int32)) x30 x24.2).bind fun x33 =>
    some (x33, x24.2)
    else
    some ((-1 : Int32), x24.2)
    else
    some ((0 : Int32), x17.2)
    else
    some ((0 : Int32), x9.2)
set_option maxRecDepth 100000 in
set_option maxHeartbeats 4000000 in
theorem c_X12_beat {E : am_E} (hE : am_EH E) {p1 : Int32} {p2 : Int32} {D : am_D} {r : (Int32 × am_D)}  (hf : f_X12_beat p1 p2 D = some r) : am_C E mX12_beat 4 0 0 [.ref 117, .int p1, .int p2] am_G0 D (.inl (some (.int r.1))) am_G0 r.2 := by
  refine am_C_of (by decide +kernel) (Nat.le_of_ble_eq_true rfl) ?_
  change am_S E mX12_beat 4 0 0 (.inl (some (.int r.1))) am_G0 r.2 0 0 0 [(0, .ref 117), (1, .int p1), (2, .int p2)] [] am_G0 D
  unfold f_X12_beat at hf
  refine am_aload_n (am_dec tmX12_beat_0 0 rfl) rfl rfl ?_
  refine am_iconst (v := (0 : Int32)) (am_dec tmX12_beat_0 1 rfl) (by decide) ?_
  obtain ⟨D1, g2, hf⟩ := am_bd hf
  refine am_putI2 (j := 0) hE (am_dec tmX12_beat_0 2 rfl) sh_117 cf12 (by decide) rfl lf_X12_110 rfl rfl rfl g2 ?_
  refine am_aload_n (am_dec tmX12_beat_0 3 rfl) rfl rfl ?_
  refine am_aload_n (am_dec tmX12_beat_0 4 rfl) rfl rfl ?_
  refine am_iload_n (am_dec tmX12_beat_0 5 rfl) rfl rfl ?_
  obtain ⟨x4, g3, hf⟩ := am_bd hf
  refine am_callV1 (As := [.int p1]) (st := [.ref 117]) hE (am_dec tmX12_beat_0 6 rfl) ok_X12_isSound rfl lm_X12_217 in_X12_isSound se_X12_isSound sh_117 cf12 (c_X12_isSound hE g3) rfl (by decide) (Nat.le_of_ble_eq_true rfl) (Nat.zero_le _) (Nat.zero_le _) rfl ?_
  obtain ⟨w7, g37, hf⟩ := am_bd hf
  have key6 : am_S E mX12_beat 4 0 0 (.inl (some (.int r.1))) am_G0 r.2 0 0 19 [(0, .ref 117), (1, .int p1), (2, .int p2)] [.int w7, .ref 117] am_G0 D1 := by
    refine am_iconst (v := (1 : Int32)) (am_dec tmX12_beat_0 11 rfl) (by decide) ?_
    obtain ⟨x9, g8, hf⟩ := am_bd hf
    refine am_callV1 (As := [.int w7, .int (1 : Int32)]) (st := []) hE (am_dec tmX12_beat_0 12 rfl) ok_X12_bad rfl lm_X12_191 in_X12_bad se_X12_bad sh_117 cf12 (c_X12_bad hE g8) rfl (by decide) (Nat.le_of_ble_eq_true rfl) (Nat.zero_le _) (Nat.zero_le _) rfl ?_
    refine am_if_ne (tgt := 48) (am_dec tmX12_beat_0 13 rfl) (by decide) (fun c10 => ?_) (fun c10 => ?_)
    · rw [if_neg c10] at hf
      refine am_iconst (v := (0 : Int32)) (am_dec tmX12_beat_0 26 rfl) (by decide) ?_
      have hf := Option.some.inj hf
      subst hf
      exact am_iret (am_dec tmX12_beat_0 27 rfl) rfl (Nat.zero_le _) (Nat.zero_le _)
    · rw [if_pos c10] at hf
      refine am_aload_n (am_dec tmX12_beat_0 14 rfl) rfl rfl ?_
      refine am_iload_n (am_dec tmX12_beat_0 15 rfl) rfl rfl ?_
      refine am_iconst (v := (0 : Int32)) (am_dec tmX12_beat_0 16 rfl) (by decide) ?_
      refine am_iconst (v := (2 : Int32)) (am_dec tmX12_beat_0 17 rfl) (by decide) ?_
      obtain ⟨x12, g11, hf⟩ := am_bd hf
      refine am_callS1 (As := [.int p2, .int (0 : Int32), .int (2 : Int32)]) (st := [.ref 117]) (am_dec tmX12_beat_0 18 rfl) ok_X12_in rfl lm_X12_144 st_X12_in (c_X12_in hE g11) rfl (by decide) (Nat.le_of_ble_eq_true rfl) (Nat.zero_le _) (Nat.zero_le _) rfl ?_
      obtain ⟨w15, g36, hf⟩ := am_bd hf
      have key14 : am_S E mX12_beat 4 0 0 (.inl (some (.int r.1))) am_G0 r.2 0 0 41 [(0, .ref 117), (1, .int p1), (2, .int p2)] [.int w15, .ref 117] am_G0 x9.2 := by
        refine am_iconst (v := (2 : Int32)) (am_dec tmX12_beat_0 23 rfl) (by decide) ?_
        obtain ⟨x17, g16, hf⟩ := am_bd hf
        refine am_callV1 (As := [.int w15, .int (2 : Int32)]) (st := []) hE (am_dec tmX12_beat_0 24 rfl) ok_X12_bad rfl lm_X12_191 in_X12_bad se_X12_bad sh_117 cf12 (c_X12_bad hE g16) rfl (by decide) (Nat.le_of_ble_eq_true rfl) (Nat.zero_le _) (Nat.zero_le _) rfl ?_
        refine am_if_eq (tgt := 50) (am_dec tmX12_beat_0 25 rfl) (by decide) (fun c18 => ?_) (fun c18 => ?_)
        · rw [if_pos c18] at hf
          refine am_aload_n (am_dec tmX12_beat_0 28 rfl) rfl rfl ?_
          refine am_aload_n (am_dec tmX12_beat_0 29 rfl) rfl rfl ?_
          refine am_getR (j := 24) hE (am_dec tmX12_beat_0 30 rfl) sh_117 cf12 (by decide) rfl lf_X12_43 rf_117_24 ?_
          refine am_iload_n (am_dec tmX12_beat_0 31 rfl) rfl rfl ?_
          obtain ⟨j19, g20, hf⟩ := am_bd hf
          have hj_j19 := (am_gA_lt g20).1
          refine am_aald2 (t := 6) hE (am_dec tmX12_beat_0 32 rfl) sh_133 (by decide) rfl rfl g20 (rr_133 hj_j19) ?_
          refine am_aload_n (am_dec tmX12_beat_0 33 rfl) rfl rfl ?_
          refine am_getR (j := 25) hE (am_dec tmX12_beat_0 34 rfl) sh_117 cf12 (by decide) rfl lf_X12_46 rf_117_25 ?_
          refine am_iload_n (am_dec tmX12_beat_0 35 rfl) rfl rfl ?_
          obtain ⟨x21, g22, hf⟩ := am_bd hf
          refine am_iald2 hE (am_dec tmX12_beat_0 36 rfl) sh_139 g22 ?_
          obtain ⟨x24, g23, hf⟩ := am_bd hf
          refine am_callV1 (As := [.ref (134 + j19), .int x21]) (st := []) hE (am_dec tmX12_beat_0 37 rfl) ok_X12_findBlows rfl lm_X12_309 in_X12_findBlows se_X12_findBlows sh_117 cf12 (c_X12_findBlows hE (am_shl (sa_133_0 hj_j19)) g23) rfl (by decide) (Nat.le_of_ble_eq_true rfl) (Nat.zero_le _) (Nat.zero_le _) rfl ?_
          refine am_istore_n (lv' := [(0, .ref 117), (1, .int p1), (2, .int p2), (3, .int x24.1)]) (am_dec tmX12_beat_0 38 rfl) rfl (by decide) rfl ?_
          refine am_iload_n (am_dec tmX12_beat_0 39 rfl) rfl rfl ?_
          refine am_iconst (v := (2 : Int32)) (am_dec tmX12_beat_0 40 rfl) (by decide) ?_
          refine am_icmp_ge (tgt := 74) (am_dec tmX12_beat_0 41 rfl) (by decide) (fun c25 => ?_) (fun c25 => ?_)
          · rw [if_pos c25] at hf
            refine am_aload_n (am_dec tmX12_beat_0 44 rfl) rfl rfl ?_
            refine am_iload_n (am_dec tmX12_beat_0 45 rfl) rfl rfl ?_
            obtain ⟨x27, g26, hf⟩ := am_bd hf
            refine am_callV1 (As := [.int x24.1]) (st := []) hE (am_dec tmX12_beat_0 46 rfl) ok_X12_beatOf rfl lm_X12_386 in_X12_beatOf se_X12_beatOf sh_117 cf12 (c_X12_beatOf hE g26) rfl (by decide) (Nat.le_of_ble_eq_true rfl) (Nat.zero_le _) (Nat.zero_le _) rfl ?_
            refine am_istore (lv' := [(0, .ref 117), (1, .int p1), (2, .int p2), (3, .int x24.1), (4, .int x27)]) (am_dec tmX12_beat_0 47 rfl) (by decide) rfl ?_
            refine am_iload_n (am_dec tmX12_beat_0 48 rfl) rfl rfl ?_
            refine am_if_ne (tgt := 94) (am_dec tmX12_beat_0 49 rfl) (by decide) (fun c28 => ?_) (fun c28 => ?_)
            · rw [if_neg c28] at hf
              refine am_iload_n (am_dec tmX12_beat_0 54 rfl) rfl rfl ?_
              refine am_iconst (v := (1 : Int32)) (am_dec tmX12_beat_0 55 rfl) (by decide) ?_
              refine am_icmp_ne (tgt := 108) (am_dec tmX12_beat_0 56 rfl) (by decide) (fun c29 => ?_) (fun c29 => ?_)
              · rw [if_neg c29] at hf
                refine am_aload_n (am_dec tmX12_beat_1 1 rfl) rfl rfl ?_
                refine am_iload_n (am_dec tmX12_beat_1 2 rfl) rfl rfl ?_
                refine am_iload (am_dec tmX12_beat_1 3 rfl) rfl ?_
                refine am_sipush (v := (200 : Int32)) (am_dec tmX12_beat_1 4 rfl) (by decide) ?_
                refine am_idiv (am_dec tmX12_beat_1 5 rfl) (by decide) ?_
                refine am_iload (am_dec tmX12_beat_1 6 rfl) rfl ?_
                refine am_sipush (v := (200 : Int32)) (am_dec tmX12_beat_1 7 rfl) (by decide) ?_
                obtain ⟨x30, g31, hf⟩ := am_bd hf
                refine am_irem2 (am_dec tmX12_beat_1 8 rfl) g31 ?_
                obtain ⟨x33, g32, hf⟩ := am_bd hf
                refine am_callV1 (As := [.int x24.1, .int (x27 / (200 : Int32)), .int x30]) (st := []) hE (am_dec tmX12_beat_1 9 rfl) ok_X12_offBy rfl lm_X12_383 in_X12_offBy se_X12_offBy sh_117 cf12 (c_X12_offBy hE g32) rfl (by decide) (Nat.le_of_ble_eq_true rfl) (Nat.zero_le _) (Nat.zero_le _) rfl ?_
                have hf := Option.some.inj hf
                subst hf
                exact am_iret (am_dec tmX12_beat_1 10 rfl) rfl (Nat.zero_le _) (Nat.zero_le _)
              · rw [if_pos c29] at hf
                refine am_iload (am_dec tmX12_beat_0 57 rfl) rfl ?_
                refine am_sipush (v := (200 : Int32)) (am_dec tmX12_beat_0 58 rfl) (by decide) ?_
                obtain ⟨x34, g35, hf⟩ := am_bd hf
                refine am_irem2 (am_dec tmX12_beat_0 59 rfl) g35 ?_
                refine am_goto (tgt := 125) (am_dec tmX12_beat_1 0 rfl) (by decide) ?_
                have hf := Option.some.inj hf
                subst hf
                exact am_iret (am_dec tmX12_beat_1 10 rfl) rfl (Nat.zero_le _) (Nat.zero_le _)
            · rw [if_pos c28] at hf
              refine am_iload (am_dec tmX12_beat_0 50 rfl) rfl ?_
              refine am_sipush (v := (200 : Int32)) (am_dec tmX12_beat_0 51 rfl) (by decide) ?_
              refine am_idiv (am_dec tmX12_beat_0 52 rfl) (by decide) ?_
              refine am_goto (tgt := 125) (am_dec tmX12_beat_0 53 rfl) (by decide) ?_
              have hf := Option.some.inj hf
              subst hf
              exact am_iret (am_dec tmX12_beat_1 10 rfl) rfl (Nat.zero_le _) (Nat.zero_le _)
          · rw [if_neg c25] at hf
            refine am_iconst (v := (-1 : Int32)) (am_dec tmX12_beat_0 42 rfl) (by decide) ?_
            have hf := Option.some.inj hf
            subst hf
            exact am_iret (am_dec tmX12_beat_0 43 rfl) rfl (Nat.zero_le _) (Nat.zero_le _)
        · rw [if_neg c18] at hf
          refine am_iconst (v := (0 : Int32)) (am_dec tmX12_beat_0 26 rfl) (by decide) ?_
          have hf := Option.some.inj hf
          subst hf
          exact am_iret (am_dec tmX12_beat_0 27 rfl) rfl (Nat.zero_le _) (Nat.zero_le _)
      replace hf := g36
      refine am_if_ne (tgt := 40) (am_dec tmX12_beat_0 19 rfl) (by decide) (fun c13 => ?_) (fun c13 => ?_)
      · rw [if_neg c13] at hf
        refine am_iconst (v := (0 : Int32)) (am_dec tmX12_beat_0 22 rfl) (by decide) ?_
        have hf := Option.some.inj hf
        subst hf
        exact am_pick [0, 1, 2] rfl key14
      · rw [if_pos c13] at hf
        refine am_iconst (v := (1 : Int32)) (am_dec tmX12_beat_0 20 rfl) (by decide) ?_
        refine am_goto (tgt := 41) (am_dec tmX12_beat_0 21 rfl) (by decide) ?_
        have hf := Option.some.inj hf
        subst hf
        exact am_pick [0, 1, 2] rfl key14
  replace hf := g37
  refine am_if_ne (tgt := 18) (am_dec tmX12_beat_0 7 rfl) (by decide) (fun c5 => ?_) (fun c5 => ?_)
  · rw [if_neg c5] at hf
    refine am_iconst (v := (0 : Int32)) (am_dec tmX12_beat_0 10 rfl) (by decide) ?_
    have hf := Option.some.inj hf
    subst hf
    exact am_pick [0, 1, 2] rfl key6
  · rw [if_pos c5] at hf
    refine am_iconst (v := (1 : Int32)) (am_dec tmX12_beat_0 8 rfl) (by decide) ?_
    refine am_goto (tgt := 19) (am_dec tmX12_beat_0 9 rfl) (by decide) ?_
    have hf := Option.some.inj hf
    subst hf
    exact am_pick [0, 1, 2] rfl key6
def f_X12_numberOf (p0 : Int32) (p1 : Int32) (p2 : Int32) : Option (Int32) :=
    (am_dv (((2 : Int32) * (p0 - p2)) + p1) ((2 : Int32) * p1)).bind fun x1 =>
    some x1
set_option maxRecDepth 100000 in
set_option maxHeartbeats 4000000 in
theorem c_X12_numberOf {E : am_E} (hE : am_EH E) {p0 : Int32} {p1 : Int32} {p2 : Int32} {D : am_D} {r : Int32}  (hf : f_X12_numberOf p0 p1 p2 = some r) : am_C E mX12_numberOf 1 0 0 [.int p0, .int p1, .int p2] am_G0 D (.inl (some (.int r))) am_G0 D := by
  refine am_C_of (by decide +kernel) (Nat.le_of_ble_eq_true rfl) ?_
  change am_S E mX12_numberOf 1 0 0 (.inl (some (.int r))) am_G0 D 0 0 0 [(0, .int p0), (1, .int p1), (2, .int p2)] [] am_G0 D
  unfold f_X12_numberOf at hf
  refine am_iconst (v := (2 : Int32)) (am_dec tmX12_numberOf 0 rfl) (by decide) ?_
  refine am_iload_n (am_dec tmX12_numberOf 1 rfl) rfl rfl ?_
  refine am_iload_n (am_dec tmX12_numberOf 2 rfl) rfl rfl ?_
  refine am_isub (am_dec tmX12_numberOf 3 rfl) ?_
  refine am_imul (am_dec tmX12_numberOf 4 rfl) ?_
  refine am_iload_n (am_dec tmX12_numberOf 5 rfl) rfl rfl ?_
  refine am_iadd (am_dec tmX12_numberOf 6 rfl) ?_
  refine am_iconst (v := (2 : Int32)) (am_dec tmX12_numberOf 7 rfl) (by decide) ?_
  refine am_iload_n (am_dec tmX12_numberOf 8 rfl) rfl rfl ?_
  refine am_imul (am_dec tmX12_numberOf 9 rfl) ?_
  obtain ⟨x1, g2, hf⟩ := am_bd hf
  refine am_idiv2 (am_dec tmX12_numberOf 10 rfl) g2 ?_
  have hf := Option.some.inj hf
  subst hf
  exact am_iret (am_dec tmX12_numberOf 11 rfl) rfl (Nat.zero_le _) (Nat.zero_le _)
def f_X12_rises (p1 : Int32) (p2 : Int32) (p3 : Int32) (D : am_D) : Option (Int32) :=
    if p1 = 0 then
    if p2 ≤ 0 then
    some (0 : Int32)
    else
    if p3 ≤ 0 then
    some (0 : Int32)
    else
    some (1 : Int32)
    else
    (am_gA 12 (p1 - (1 : Int32))).bind fun j2 =>
    (am_gI D (121 + j2) 2 (0 : Int32)).bind fun x4 =>
    if p2 ≤ x4 then
    some (0 : Int32)
    else
    (am_gA 12 (p1 - (1 : Int32))).bind fun j7 =>
    (am_gI D (121 + j7) 2 (1 : Int32)).bind fun x9 =>
    if p3 ≤ x9 then
    some (0 : Int32)
    else
    some (1 : Int32)
set_option maxRecDepth 100000 in
set_option maxHeartbeats 4000000 in
theorem c_X12_rises {E : am_E} (hE : am_EH E) {p1 : Int32} {p2 : Int32} {p3 : Int32} {D : am_D} {r : Int32}  (hf : f_X12_rises p1 p2 p3 D = some r) : am_C E mX12_rises 1 0 0 [.ref 117, .int p1, .int p2, .int p3] am_G0 D (.inl (some (.int r))) am_G0 D := by
  refine am_C_of (by decide +kernel) (Nat.le_of_ble_eq_true rfl) ?_
  change am_S E mX12_rises 1 0 0 (.inl (some (.int r))) am_G0 D 0 0 0 [(0, .ref 117), (1, .int p1), (2, .int p2), (3, .int p3)] [] am_G0 D
  unfold f_X12_rises at hf
  refine am_iload_n (am_dec tmX12_rises 0 rfl) rfl rfl ?_
  refine am_if_ne (tgt := 20) (am_dec tmX12_rises 1 rfl) (by decide) (fun c1 => ?_) (fun c1 => ?_)
  · rw [if_neg c1] at hf
    refine am_iload_n (am_dec tmX12_rises 10 rfl) rfl rfl ?_
    refine am_aload_n (am_dec tmX12_rises 11 rfl) rfl rfl ?_
    refine am_getR (j := 11) hE (am_dec tmX12_rises 12 rfl) sh_117 cf12 (by decide) rfl lf_X12_22 rf_117_11 ?_
    refine am_iload_n (am_dec tmX12_rises 13 rfl) rfl rfl ?_
    refine am_iconst (v := (1 : Int32)) (am_dec tmX12_rises 14 rfl) (by decide) ?_
    refine am_isub (am_dec tmX12_rises 15 rfl) ?_
    obtain ⟨j2, g3, hf⟩ := am_bd hf
    have hj_j2 := (am_gA_lt g3).1
    refine am_aald2 (t := 6) hE (am_dec tmX12_rises 16 rfl) sh_120 (by decide) rfl rfl g3 (rr_120 hj_j2) ?_
    refine am_iconst (v := (0 : Int32)) (am_dec tmX12_rises 17 rfl) (by decide) ?_
    obtain ⟨x4, g5, hf⟩ := am_bd hf
    refine am_iald2 hE (am_dec tmX12_rises 18 rfl) (sa_120_0 hj_j2) g5 ?_
    refine am_icmp_le (tgt := 52) (am_dec tmX12_rises 19 rfl) (by decide) (fun c6 => ?_) (fun c6 => ?_)
    · rw [if_pos c6] at hf
      refine am_iconst (v := (0 : Int32)) (am_dec tmX12_rises 32 rfl) (by decide) ?_
      have hf := Option.some.inj hf
      subst hf
      exact am_zret (am_dec tmX12_rises 33 rfl) rfl am_z0 (Nat.zero_le _) (Nat.zero_le _)
    · rw [if_neg c6] at hf
      refine am_iload_n (am_dec tmX12_rises 20 rfl) rfl rfl ?_
      refine am_aload_n (am_dec tmX12_rises 21 rfl) rfl rfl ?_
      refine am_getR (j := 11) hE (am_dec tmX12_rises 22 rfl) sh_117 cf12 (by decide) rfl lf_X12_22 rf_117_11 ?_
      refine am_iload_n (am_dec tmX12_rises 23 rfl) rfl rfl ?_
      refine am_iconst (v := (1 : Int32)) (am_dec tmX12_rises 24 rfl) (by decide) ?_
      refine am_isub (am_dec tmX12_rises 25 rfl) ?_
      obtain ⟨j7, g8, hf⟩ := am_bd hf
      have hj_j7 := (am_gA_lt g8).1
      refine am_aald2 (t := 6) hE (am_dec tmX12_rises 26 rfl) sh_120 (by decide) rfl rfl g8 (rr_120 hj_j7) ?_
      refine am_iconst (v := (1 : Int32)) (am_dec tmX12_rises 27 rfl) (by decide) ?_
      obtain ⟨x9, g10, hf⟩ := am_bd hf
      refine am_iald2 hE (am_dec tmX12_rises 28 rfl) (sa_120_0 hj_j7) g10 ?_
      refine am_icmp_le (tgt := 52) (am_dec tmX12_rises 29 rfl) (by decide) (fun c11 => ?_) (fun c11 => ?_)
      · rw [if_pos c11] at hf
        refine am_iconst (v := (0 : Int32)) (am_dec tmX12_rises 32 rfl) (by decide) ?_
        have hf := Option.some.inj hf
        subst hf
        exact am_zret (am_dec tmX12_rises 33 rfl) rfl am_z0 (Nat.zero_le _) (Nat.zero_le _)
      · rw [if_neg c11] at hf
        refine am_iconst (v := (1 : Int32)) (am_dec tmX12_rises 30 rfl) (by decide) ?_
        refine am_goto (tgt := 53) (am_dec tmX12_rises 31 rfl) (by decide) ?_
        have hf := Option.some.inj hf
        subst hf
        exact am_zret (am_dec tmX12_rises 33 rfl) rfl am_z1 (Nat.zero_le _) (Nat.zero_le _)
  · rw [if_pos c1] at hf
    refine am_iload_n (am_dec tmX12_rises 2 rfl) rfl rfl ?_
    refine am_if_le (tgt := 16) (am_dec tmX12_rises 3 rfl) (by decide) (fun c12 => ?_) (fun c12 => ?_)
    · rw [if_pos c12] at hf
      refine am_iconst (v := (0 : Int32)) (am_dec tmX12_rises 8 rfl) (by decide) ?_
      refine am_goto (tgt := 53) (am_dec tmX12_rises 9 rfl) (by decide) ?_
      have hf := Option.some.inj hf
      subst hf
      exact am_zret (am_dec tmX12_rises 33 rfl) rfl am_z0 (Nat.zero_le _) (Nat.zero_le _)
    · rw [if_neg c12] at hf
      refine am_iload_n (am_dec tmX12_rises 4 rfl) rfl rfl ?_
      refine am_if_le (tgt := 16) (am_dec tmX12_rises 5 rfl) (by decide) (fun c13 => ?_) (fun c13 => ?_)
      · rw [if_pos c13] at hf
        refine am_iconst (v := (0 : Int32)) (am_dec tmX12_rises 8 rfl) (by decide) ?_
        refine am_goto (tgt := 53) (am_dec tmX12_rises 9 rfl) (by decide) ?_
        have hf := Option.some.inj hf
        subst hf
        exact am_zret (am_dec tmX12_rises 33 rfl) rfl am_z0 (Nat.zero_le _) (Nat.zero_le _)
      · rw [if_neg c13] at hf
        refine am_iconst (v := (1 : Int32)) (am_dec tmX12_rises 6 rfl) (by decide) ?_
        refine am_goto (tgt := 53) (am_dec tmX12_rises 7 rfl) (by decide) ?_
        have hf := Option.some.inj hf
        subst hf
        exact am_zret (am_dec tmX12_rises 33 rfl) rfl am_z1 (Nat.zero_le _) (Nat.zero_le _)
theorem z_X12_rises {p1 : Int32} {p2 : Int32} {p3 : Int32} {D : am_D} {r : Int32} (hf : f_X12_rises p1 p2 p3 D = some r) : narrow .boolean (.int r) = .int r := by
  unfold f_X12_rises at hf
  by_cases c1 : p1 = 0
  · rw [if_pos c1] at hf
    by_cases c12 : p2 ≤ 0
    · rw [if_pos c12] at hf
      have hf := Option.some.inj hf
      subst hf
      exact am_z0
    · rw [if_neg c12] at hf
      by_cases c13 : p3 ≤ 0
      · rw [if_pos c13] at hf
        have hf := Option.some.inj hf
        subst hf
        exact am_z0
      · rw [if_neg c13] at hf
        have hf := Option.some.inj hf
        subst hf
        exact am_z1
  · rw [if_neg c1] at hf
    obtain ⟨j2, g3, hf⟩ := am_bd hf
    obtain ⟨x4, g5, hf⟩ := am_bd hf
    by_cases c6 : p2 ≤ x4
    · rw [if_pos c6] at hf
      have hf := Option.some.inj hf
      subst hf
      exact am_z0
    · rw [if_neg c6] at hf
      obtain ⟨j7, g8, hf⟩ := am_bd hf
      obtain ⟨x9, g10, hf⟩ := am_bd hf
      by_cases c11 : p3 ≤ x9
      · rw [if_pos c11] at hf
        have hf := Option.some.inj hf
        subst hf
        exact am_z0
      · rw [if_neg c11] at hf
        have hf := Option.some.inj hf
        subst hf
        exact am_z1
def f_X12_endsMap (p1 : Int32) (p2 : Int32) (D : am_D) : Option ((Int32 × am_D)) :=
    (if p2 = 0 then
    some ((0 : Int32))
    else
    (am_gA 12 (p2 - (1 : Int32))).bind fun j3 =>
    (am_gI D (121 + j3) 2 (0 : Int32)).bind fun x5 =>
    some (x5)).bind fun w7 =>
    (if p2 = 0 then
    some ((0 : Int32))
    else
    (am_gA 12 (p2 - (1 : Int32))).bind fun j10 =>
    (am_gI D (121 + j10) 2 (1 : Int32)).bind fun x12 =>
    some (x12)).bind fun w14 =>
    (am_gA 12 p2).bind fun j15 =>
    (am_gI D 139 5 p1).bind fun x17 =>
    (am_pI D (121 + j15) 2 (0 : Int32) x17).bind fun D19 =>
    (am_gA 12 p2).bind fun j21 =>
    (am_gI D19 139 5 p1).bind fun x23 =>
    (am_pI D19 (121 + j21) 2 (1 : Int32) ((w14 + x23) - w7)).bind fun D25 =>
    (am_gA 12 p2).bind fun j27 =>
    (am_gI D25 (121 + j27) 2 (1 : Int32)).bind fun x29 =>
    if x29 ≤ (1200 : Int32) then
    (f_X12_keepsMap (p2 + (1 : Int32)) D25).bind fun x33 =>
    some (x33.1, x33.2)
    else
    some ((-2 : Int32), D25)
set_option maxRecDepth 100000 in
set_option maxHeartbeats 4000000 in
theorem c_X12_endsMap {E : am_E} (hE : am_EH E) {p1 : Int32} {p2 : Int32} {D : am_D} {r : (Int32 × am_D)}  (hf : f_X12_endsMap p1 p2 D = some r) : am_C E mX12_endsMap 2 0 0 [.ref 117, .int p1, .int p2] am_G0 D (.inl (some (.int r.1))) am_G0 r.2 := by
  refine am_C_of (by decide +kernel) (Nat.le_of_ble_eq_true rfl) ?_
  change am_S E mX12_endsMap 2 0 0 (.inl (some (.int r.1))) am_G0 r.2 0 0 0 [(0, .ref 117), (1, .int p1), (2, .int p2)] [] am_G0 D
  unfold f_X12_endsMap at hf
  refine am_iload_n (am_dec tmX12_endsMap_0 0 rfl) rfl rfl ?_
  obtain ⟨w7, g35, hf⟩ := am_bd hf
  have key2 : am_S E mX12_endsMap 2 0 0 (.inl (some (.int r.1))) am_G0 r.2 0 0 18 [(0, .ref 117), (1, .int p1), (2, .int p2)] [.int w7] am_G0 D := by
    refine am_istore_n (lv' := [(0, .ref 117), (1, .int p1), (2, .int p2), (3, .int w7)]) (am_dec tmX12_endsMap_0 12 rfl) rfl (by decide) rfl ?_
    refine am_iload_n (am_dec tmX12_endsMap_0 13 rfl) rfl rfl ?_
    obtain ⟨w14, g34, hf⟩ := am_bd hf
    have key9 : am_S E mX12_endsMap 2 0 0 (.inl (some (.int r.1))) am_G0 r.2 0 0 37 [(0, .ref 117), (1, .int p1), (2, .int p2), (3, .int w7)] [.int w14] am_G0 D := by
      refine am_istore (lv' := [(0, .ref 117), (1, .int p1), (2, .int p2), (3, .int w7), (4, .int w14)]) (am_dec tmX12_endsMap_0 25 rfl) (by decide) rfl ?_
      refine am_aload_n (am_dec tmX12_endsMap_0 26 rfl) rfl rfl ?_
      refine am_getR (j := 11) hE (am_dec tmX12_endsMap_0 27 rfl) sh_117 cf12 (by decide) rfl lf_X12_22 rf_117_11 ?_
      refine am_iload_n (am_dec tmX12_endsMap_0 28 rfl) rfl rfl ?_
      obtain ⟨j15, g16, hf⟩ := am_bd hf
      have hj_j15 := (am_gA_lt g16).1
      refine am_aald2 (t := 6) hE (am_dec tmX12_endsMap_0 29 rfl) sh_120 (by decide) rfl rfl g16 (rr_120 hj_j15) ?_
      refine am_iconst (v := (0 : Int32)) (am_dec tmX12_endsMap_0 30 rfl) (by decide) ?_
      refine am_aload_n (am_dec tmX12_endsMap_0 31 rfl) rfl rfl ?_
      refine am_getR (j := 25) hE (am_dec tmX12_endsMap_0 32 rfl) sh_117 cf12 (by decide) rfl lf_X12_46 rf_117_25 ?_
      refine am_iload_n (am_dec tmX12_endsMap_0 33 rfl) rfl rfl ?_
      obtain ⟨x17, g18, hf⟩ := am_bd hf
      refine am_iald2 hE (am_dec tmX12_endsMap_0 34 rfl) sh_139 g18 ?_
      obtain ⟨D19, g20, hf⟩ := am_bd hf
      refine am_iast2 hE (am_dec tmX12_endsMap_0 35 rfl) (sa_120_0 hj_j15) g20 ?_
      refine am_aload_n (am_dec tmX12_endsMap_0 36 rfl) rfl rfl ?_
      refine am_getR (j := 11) hE (am_dec tmX12_endsMap_0 37 rfl) sh_117 cf12 (by decide) rfl lf_X12_22 rf_117_11 ?_
      refine am_iload_n (am_dec tmX12_endsMap_0 38 rfl) rfl rfl ?_
      obtain ⟨j21, g22, hf⟩ := am_bd hf
      have hj_j21 := (am_gA_lt g22).1
      refine am_aald2 (t := 6) hE (am_dec tmX12_endsMap_0 39 rfl) sh_120 (by decide) rfl rfl g22 (rr_120 hj_j21) ?_
      refine am_iconst (v := (1 : Int32)) (am_dec tmX12_endsMap_0 40 rfl) (by decide) ?_
      refine am_iload (am_dec tmX12_endsMap_0 41 rfl) rfl ?_
      refine am_aload_n (am_dec tmX12_endsMap_0 42 rfl) rfl rfl ?_
      refine am_getR (j := 25) hE (am_dec tmX12_endsMap_0 43 rfl) sh_117 cf12 (by decide) rfl lf_X12_46 rf_117_25 ?_
      refine am_iload_n (am_dec tmX12_endsMap_0 44 rfl) rfl rfl ?_
      obtain ⟨x23, g24, hf⟩ := am_bd hf
      refine am_iald2 hE (am_dec tmX12_endsMap_0 45 rfl) sh_139 g24 ?_
      refine am_iadd (am_dec tmX12_endsMap_0 46 rfl) ?_
      refine am_iload_n (am_dec tmX12_endsMap_0 47 rfl) rfl rfl ?_
      refine am_isub (am_dec tmX12_endsMap_0 48 rfl) ?_
      obtain ⟨D25, g26, hf⟩ := am_bd hf
      refine am_iast2 hE (am_dec tmX12_endsMap_0 49 rfl) (sa_120_0 hj_j21) g26 ?_
      refine am_aload_n (am_dec tmX12_endsMap_0 50 rfl) rfl rfl ?_
      refine am_getR (j := 11) hE (am_dec tmX12_endsMap_0 51 rfl) sh_117 cf12 (by decide) rfl lf_X12_22 rf_117_11 ?_
      refine am_iload_n (am_dec tmX12_endsMap_0 52 rfl) rfl rfl ?_
      obtain ⟨j27, g28, hf⟩ := am_bd hf
      have hj_j27 := (am_gA_lt g28).1
      refine am_aald2 (t := 6) hE (am_dec tmX12_endsMap_0 53 rfl) sh_120 (by decide) rfl rfl g28 (rr_120 hj_j27) ?_
      refine am_iconst (v := (1 : Int32)) (am_dec tmX12_endsMap_0 54 rfl) (by decide) ?_
      obtain ⟨x29, g30, hf⟩ := am_bd hf
      refine am_iald2 hE (am_dec tmX12_endsMap_0 55 rfl) (sa_120_0 hj_j27) g30 ?_
      refine am_sipush (v := (1200 : Int32)) (am_dec tmX12_endsMap_0 56 rfl) (by decide) ?_
      refine am_icmp_le (tgt := 91) (am_dec tmX12_endsMap_0 57 rfl) (by decide) (fun c31 => ?_) (fun c31 => ?_)
      · rw [if_pos c31] at hf
        refine am_aload_n (am_dec tmX12_endsMap_1 0 rfl) rfl rfl ?_
        refine am_iload_n (am_dec tmX12_endsMap_1 1 rfl) rfl rfl ?_
        refine am_iconst (v := (1 : Int32)) (am_dec tmX12_endsMap_1 2 rfl) (by decide) ?_
        refine am_iadd (am_dec tmX12_endsMap_1 3 rfl) ?_
        obtain ⟨x33, g32, hf⟩ := am_bd hf
        refine am_callV1 (As := [.int (p2 + (1 : Int32))]) (st := []) hE (am_dec tmX12_endsMap_1 4 rfl) ok_X12_keepsMap rfl lm_X12_214 in_X12_keepsMap se_X12_keepsMap sh_117 cf12 (c_X12_keepsMap hE g32) rfl (by decide) (Nat.le_of_ble_eq_true rfl) (Nat.zero_le _) (Nat.zero_le _) rfl ?_
        have hf := Option.some.inj hf
        subst hf
        exact am_iret (am_dec tmX12_endsMap_1 5 rfl) rfl (Nat.zero_le _) (Nat.zero_le _)
      · rw [if_neg c31] at hf
        refine am_bipush (v := (-2 : Int32)) (am_dec tmX12_endsMap_0 58 rfl) (by decide) ?_
        refine am_goto (tgt := 98) (am_dec tmX12_endsMap_0 59 rfl) (by decide) ?_
        have hf := Option.some.inj hf
        subst hf
        exact am_iret (am_dec tmX12_endsMap_1 5 rfl) rfl (Nat.zero_le _) (Nat.zero_le _)
    replace hf := g34
    refine am_if_ne (tgt := 27) (am_dec tmX12_endsMap_0 14 rfl) (by decide) (fun c8 => ?_) (fun c8 => ?_)
    · rw [if_neg c8] at hf
      refine am_aload_n (am_dec tmX12_endsMap_0 17 rfl) rfl rfl ?_
      refine am_getR (j := 11) hE (am_dec tmX12_endsMap_0 18 rfl) sh_117 cf12 (by decide) rfl lf_X12_22 rf_117_11 ?_
      refine am_iload_n (am_dec tmX12_endsMap_0 19 rfl) rfl rfl ?_
      refine am_iconst (v := (1 : Int32)) (am_dec tmX12_endsMap_0 20 rfl) (by decide) ?_
      refine am_isub (am_dec tmX12_endsMap_0 21 rfl) ?_
      obtain ⟨j10, g11, hf⟩ := am_bd hf
      have hj_j10 := (am_gA_lt g11).1
      refine am_aald2 (t := 6) hE (am_dec tmX12_endsMap_0 22 rfl) sh_120 (by decide) rfl rfl g11 (rr_120 hj_j10) ?_
      refine am_iconst (v := (1 : Int32)) (am_dec tmX12_endsMap_0 23 rfl) (by decide) ?_
      obtain ⟨x12, g13, hf⟩ := am_bd hf
      refine am_iald2 hE (am_dec tmX12_endsMap_0 24 rfl) (sa_120_0 hj_j10) g13 ?_
      have hf := Option.some.inj hf
      subst hf
      exact am_pick [0, 1, 2, 3] rfl key9
    · rw [if_pos c8] at hf
      refine am_iconst (v := (0 : Int32)) (am_dec tmX12_endsMap_0 15 rfl) (by decide) ?_
      refine am_goto (tgt := 37) (am_dec tmX12_endsMap_0 16 rfl) (by decide) ?_
      have hf := Option.some.inj hf
      subst hf
      exact am_pick [0, 1, 2, 3] rfl key9
  replace hf := g35
  refine am_if_ne (tgt := 8) (am_dec tmX12_endsMap_0 1 rfl) (by decide) (fun c1 => ?_) (fun c1 => ?_)
  · rw [if_neg c1] at hf
    refine am_aload_n (am_dec tmX12_endsMap_0 4 rfl) rfl rfl ?_
    refine am_getR (j := 11) hE (am_dec tmX12_endsMap_0 5 rfl) sh_117 cf12 (by decide) rfl lf_X12_22 rf_117_11 ?_
    refine am_iload_n (am_dec tmX12_endsMap_0 6 rfl) rfl rfl ?_
    refine am_iconst (v := (1 : Int32)) (am_dec tmX12_endsMap_0 7 rfl) (by decide) ?_
    refine am_isub (am_dec tmX12_endsMap_0 8 rfl) ?_
    obtain ⟨j3, g4, hf⟩ := am_bd hf
    have hj_j3 := (am_gA_lt g4).1
    refine am_aald2 (t := 6) hE (am_dec tmX12_endsMap_0 9 rfl) sh_120 (by decide) rfl rfl g4 (rr_120 hj_j3) ?_
    refine am_iconst (v := (0 : Int32)) (am_dec tmX12_endsMap_0 10 rfl) (by decide) ?_
    obtain ⟨x5, g6, hf⟩ := am_bd hf
    refine am_iald2 hE (am_dec tmX12_endsMap_0 11 rfl) (sa_120_0 hj_j3) g6 ?_
    have hf := Option.some.inj hf
    subst hf
    exact am_pick [0, 1, 2] rfl key2
  · rw [if_pos c1] at hf
    refine am_iconst (v := (0 : Int32)) (am_dec tmX12_endsMap_0 2 rfl) (by decide) ?_
    refine am_goto (tgt := 18) (am_dec tmX12_endsMap_0 3 rfl) (by decide) ?_
    have hf := Option.some.inj hf
    subst hf
    exact am_pick [0, 1, 2] rfl key2
def f_X12_onto_L116 (q1 : Int32) (q2 : Int32) (q3 : Int32) (q5 : Int32) (q6 : Int32) : Nat → Int32 → Int32 → am_D → Option (Int32 × am_D)
  | 0, _, _, _ => none
  | n + 1, v7, v8, D =>
    if q3 ≤ v8 then
    some (v7, D)
    else
    if (11 : Int32) ≤ v7 then
    some (v7, D)
    else
    (am_gI D 2629 1200 v8).bind fun x33 =>
    (f_X12_numberOf x33 q5 q6).bind fun x36 =>
    (am_gI D 2629 1200 (0 : Int32)).bind fun x37 =>
    (f_X12_numberOf x37 q5 q6).bind fun x40 =>
    (if x33 = 0 then
    some (v7, D)
    else
    (f_X12_rises v7 x33 (q2 * ((x36 - x40) + (1 : Int32))) D).bind fun x44 =>
    if x44 = 0 then
    some (v7, D)
    else
    (am_gA 12 v7).bind fun j46 =>
    (am_pI D (121 + j46) 2 (0 : Int32) x33).bind fun D48 =>
    (am_gA 12 v7).bind fun j50 =>
    (am_pI D48 (121 + j50) 2 (1 : Int32) (q2 * ((x36 - x40) + (1 : Int32)))).bind fun D52 =>
    some ((v7 + (1 : Int32)), D52)).bind fun w54 =>
    f_X12_onto_L116 q1 q2 q3 q5 q6 n w54.1 (v8 + (1 : Int32)) w54.2
def f_X12_onto (p1 : Int32) (p2 : Int32) (D : am_D) : Option ((Int32 × am_D)) :=
    (some (am_wI D 117 0 (0 : Int32))).bind fun D1 =>
    (f_X12_isSound p1 D1).bind fun x4 =>
    (if x4 = 0 then
    some ((1 : Int32))
    else
    some ((0 : Int32))).bind fun w7 =>
    (f_X12_bad w7 (1 : Int32) D1).bind fun x9 =>
    if x9.1 = 0 then
    (f_X12_in p2 (1 : Int32) (200 : Int32)).bind fun x12 =>
    (if x12 = 0 then
    some ((1 : Int32))
    else
    some ((0 : Int32))).bind fun w15 =>
    (f_X12_bad w15 (2 : Int32) x9.2).bind fun x17 =>
    if x17.1 = 0 then
    if (x17.2.1 117 13) = (5 : Int32) then
    some ((-1 : Int32), x17.2)
    else
    (am_gA 5 p1).bind fun j20 =>
    (am_gI x17.2 139 5 p1).bind fun x22 =>
    (f_X12_findBlows (134 + j20) x22 x17.2).bind fun x25 =>
    if (2 : Int32) ≤ x25.1 then
    (f_X12_beatOf x25.1 x25.2).bind fun x28 =>
    (am_rm x28 (200 : Int32)).bind fun x29 =>
    (f_X12_onto_L116 p1 p2 x25.1 (x28 / (200 : Int32)) x29 am_fu (0 : Int32) (0 : Int32) x25.2).bind fun e56 =>
    (f_X12_endsMap p1 e56.1 e56.2).bind fun x58 =>
    some (x58.1, x58.2)
    else
    some ((-2 : Int32), x25.2)
    else
    some ((0 : Int32), x17.2)
    else
    some ((0 : Int32), x9.2)
set_option maxRecDepth 100000 in
set_option maxHeartbeats 4000000 in
theorem l_X12_onto_L116 {E : am_E} (hE : am_EH E) {d mc ms : Nat} {o : am_O} {G2 : am_G} {D2 : am_D} (hdp : 4 ≤ d) {q1 : Int32} {q2 : Int32} {q3 : Int32} {q5 : Int32} {q6 : Int32}  : ∀ (n : Nat) (v7 : Int32) (v8 : Int32) (D : am_D) (ex0 : Int32 × am_D), f_X12_onto_L116 q1 q2 q3 q5 q6 n v7 v8 D = some ex0 → (∀ ex : Int32 × am_D, ex0 = ex → am_S E mX12_onto d mc ms o G2 D2 0 0 219 [(0, .ref 117), (1, .int q1), (7, .int ex.1)] [] am_G0 ex.2) → am_S E mX12_onto d mc ms o G2 D2 0 0 116 [(0, .ref 117), (1, .int q1), (2, .int q2), (3, .int q3), (5, .int q5), (6, .int q6), (7, .int v7), (8, .int v8)] [] am_G0 D
  | 0, _, _, _, _, hf, _ => by
    unfold f_X12_onto_L116 at hf
    cases hf
  | n + 1, v7, v8, D, ex0, hf, hk0 => by
    unfold f_X12_onto_L116 at hf
    refine am_iload (am_dec tmX12_onto_1 6 rfl) rfl ?_
    refine am_iload_n (am_dec tmX12_onto_1 7 rfl) rfl rfl ?_
    refine am_icmp_ge (tgt := 219) (am_dec tmX12_onto_1 8 rfl) (by decide) (fun c31 => ?_) (fun c31 => ?_)
    · rw [if_pos c31] at hf
      have hf := Option.some.inj hf
      subst hf
      exact am_pick [0, 1, 6] rfl (hk0 _ rfl)
    · rw [if_neg c31] at hf
      refine am_iload (am_dec tmX12_onto_1 9 rfl) rfl ?_
      refine am_bipush (v := (11 : Int32)) (am_dec tmX12_onto_1 10 rfl) (by decide) ?_
      refine am_icmp_ge (tgt := 219) (am_dec tmX12_onto_1 11 rfl) (by decide) (fun c32 => ?_) (fun c32 => ?_)
      · rw [if_pos c32] at hf
        have hf := Option.some.inj hf
        subst hf
        exact am_pick [0, 1, 6] rfl (hk0 _ rfl)
      · rw [if_neg c32] at hf
        refine am_aload_n (am_dec tmX12_onto_1 12 rfl) rfl rfl ?_
        refine am_getR (j := 51) hE (am_dec tmX12_onto_1 13 rfl) sh_117 cf12 (by decide) rfl lf_X12_94 rf_117_51 ?_
        refine am_iload (am_dec tmX12_onto_1 14 rfl) rfl ?_
        obtain ⟨x33, g34, hf⟩ := am_bd hf
        refine am_iald2 hE (am_dec tmX12_onto_1 15 rfl) sh_2629 g34 ?_
        refine am_istore (lv' := [(0, .ref 117), (1, .int q1), (2, .int q2), (3, .int q3), (5, .int q5), (6, .int q6), (7, .int v7), (8, .int v8), (9, .int x33)]) (am_dec tmX12_onto_1 16 rfl) (by decide) rfl ?_
        refine am_iload_n (am_dec tmX12_onto_1 17 rfl) rfl rfl ?_
        refine am_iload (am_dec tmX12_onto_1 18 rfl) rfl ?_
        refine am_iload (am_dec tmX12_onto_1 19 rfl) rfl ?_
        refine am_iload (am_dec tmX12_onto_1 20 rfl) rfl ?_
        obtain ⟨x36, g35, hf⟩ := am_bd hf
        refine am_callS1 (As := [.int x33, .int q5, .int q6]) (st := [.int q2]) (am_dec tmX12_onto_1 21 rfl) ok_X12_numberOf rfl lm_X12_389 st_X12_numberOf (c_X12_numberOf hE g35) rfl (Nat.lt_of_lt_of_le (by decide) hdp) (Nat.le_of_ble_eq_true rfl) (Nat.zero_le _) (Nat.zero_le _) rfl ?_
        refine am_aload_n (am_dec tmX12_onto_1 22 rfl) rfl rfl ?_
        refine am_getR (j := 51) hE (am_dec tmX12_onto_1 23 rfl) sh_117 cf12 (by decide) rfl lf_X12_94 rf_117_51 ?_
        refine am_iconst (v := (0 : Int32)) (am_dec tmX12_onto_1 24 rfl) (by decide) ?_
        obtain ⟨x37, g38, hf⟩ := am_bd hf
        refine am_iald2 hE (am_dec tmX12_onto_1 25 rfl) sh_2629 g38 ?_
        refine am_iload (am_dec tmX12_onto_1 26 rfl) rfl ?_
        refine am_iload (am_dec tmX12_onto_1 27 rfl) rfl ?_
        obtain ⟨x40, g39, hf⟩ := am_bd hf
        refine am_callS1 (As := [.int x37, .int q5, .int q6]) (st := [.int x36, .int q2]) (am_dec tmX12_onto_1 28 rfl) ok_X12_numberOf rfl lm_X12_389 st_X12_numberOf (c_X12_numberOf hE g39) rfl (Nat.lt_of_lt_of_le (by decide) hdp) (Nat.le_of_ble_eq_true rfl) (Nat.zero_le _) (Nat.zero_le _) rfl ?_
        refine am_isub (am_dec tmX12_onto_1 29 rfl) ?_
        refine am_iconst (v := (1 : Int32)) (am_dec tmX12_onto_1 30 rfl) (by decide) ?_
        refine am_iadd (am_dec tmX12_onto_1 31 rfl) ?_
        refine am_imul (am_dec tmX12_onto_1 32 rfl) ?_
        refine am_istore (lv' := [(0, .ref 117), (1, .int q1), (2, .int q2), (3, .int q3), (5, .int q5), (6, .int q6), (7, .int v7), (8, .int v8), (9, .int x33), (10, .int (q2 * ((x36 - x40) + (1 : Int32))))]) (am_dec tmX12_onto_1 33 rfl) (by decide) rfl ?_
        refine am_iload (am_dec tmX12_onto_1 34 rfl) rfl ?_
        obtain ⟨w54, g55, hf⟩ := am_bd hf
        have key42 : am_S E mX12_onto d mc ms o G2 D2 0 0 213 [(0, .ref 117), (1, .int q1), (2, .int q2), (3, .int q3), (5, .int q5), (6, .int q6), (7, .int w54.1), (8, .int v8)] [] am_G0 w54.2 := by
          refine am_iinc (v := (1 : Int32)) (lv' := [(0, .ref 117), (1, .int q1), (2, .int q2), (3, .int q3), (5, .int q5), (6, .int q6), (7, .int w54.1), (8, .int (v8 + (1 : Int32)))]) (am_dec tmX12_onto_1 58 rfl) rfl (by decide) (by decide) rfl ?_
          refine am_goto (tgt := 116) (am_dec tmX12_onto_1 59 rfl) (by decide) ?_
          exact am_pick [0, 1, 2, 3, 4, 5, 6, 7] rfl (l_X12_onto_L116 hE hdp n w54.1 (v8 + (1 : Int32)) w54.2 ex0 hf hk0)
        replace hf := g55
        refine am_if_eq (tgt := 213) (am_dec tmX12_onto_1 35 rfl) (by decide) (fun c41 => ?_) (fun c41 => ?_)
        · rw [if_pos c41] at hf
          have hf := Option.some.inj hf
          subst hf
          exact am_pick [0, 1, 2, 3, 4, 5, 6, 7] rfl key42
        · rw [if_neg c41] at hf
          refine am_aload_n (am_dec tmX12_onto_1 36 rfl) rfl rfl ?_
          refine am_iload (am_dec tmX12_onto_1 37 rfl) rfl ?_
          refine am_iload (am_dec tmX12_onto_1 38 rfl) rfl ?_
          refine am_iload (am_dec tmX12_onto_1 39 rfl) rfl ?_
          obtain ⟨x44, g43, hf⟩ := am_bd hf
          refine am_callV1 (As := [.int v7, .int x33, .int (q2 * ((x36 - x40) + (1 : Int32)))]) (st := []) hE (am_dec tmX12_onto_1 40 rfl) ok_X12_rises rfl lm_X12_392 in_X12_rises se_X12_rises sh_117 cf12 (c_X12_rises hE g43) rfl (Nat.lt_of_lt_of_le (by decide) hdp) (Nat.le_of_ble_eq_true rfl) (Nat.zero_le _) (Nat.zero_le _) rfl ?_
          refine am_if_ne (tgt := 188) (am_dec tmX12_onto_1 41 rfl) (by decide) (fun c45 => ?_) (fun c45 => ?_)
          · rw [if_neg c45] at hf
            refine am_aload_n (am_dec tmX12_onto_1 43 rfl) rfl rfl ?_
            refine am_getR (j := 11) hE (am_dec tmX12_onto_1 44 rfl) sh_117 cf12 (by decide) rfl lf_X12_22 rf_117_11 ?_
            refine am_iload (am_dec tmX12_onto_1 45 rfl) rfl ?_
            obtain ⟨j46, g47, hf⟩ := am_bd hf
            have hj_j46 := (am_gA_lt g47).1
            refine am_aald2 (t := 6) hE (am_dec tmX12_onto_1 46 rfl) sh_120 (by decide) rfl rfl g47 (rr_120 hj_j46) ?_
            refine am_iconst (v := (0 : Int32)) (am_dec tmX12_onto_1 47 rfl) (by decide) ?_
            refine am_iload (am_dec tmX12_onto_1 48 rfl) rfl ?_
            obtain ⟨D48, g49, hf⟩ := am_bd hf
            refine am_iast2 hE (am_dec tmX12_onto_1 49 rfl) (sa_120_0 hj_j46) g49 ?_
            refine am_aload_n (am_dec tmX12_onto_1 50 rfl) rfl rfl ?_
            refine am_getR (j := 11) hE (am_dec tmX12_onto_1 51 rfl) sh_117 cf12 (by decide) rfl lf_X12_22 rf_117_11 ?_
            refine am_iload (am_dec tmX12_onto_1 52 rfl) rfl ?_
            obtain ⟨j50, g51, hf⟩ := am_bd hf
            have hj_j50 := (am_gA_lt g51).1
            refine am_aald2 (t := 6) hE (am_dec tmX12_onto_1 53 rfl) sh_120 (by decide) rfl rfl g51 (rr_120 hj_j50) ?_
            refine am_iconst (v := (1 : Int32)) (am_dec tmX12_onto_1 54 rfl) (by decide) ?_
            refine am_iload (am_dec tmX12_onto_1 55 rfl) rfl ?_
            obtain ⟨D52, g53, hf⟩ := am_bd hf
            refine am_iast2 hE (am_dec tmX12_onto_1 56 rfl) (sa_120_0 hj_j50) g53 ?_
            refine am_iinc (v := (1 : Int32)) (lv' := [(0, .ref 117), (1, .int q1), (2, .int q2), (3, .int q3), (5, .int q5), (6, .int q6), (7, .int (v7 + (1 : Int32))), (8, .int v8), (9, .int x33), (10, .int (q2 * ((x36 - x40) + (1 : Int32))))]) (am_dec tmX12_onto_1 57 rfl) rfl (by decide) (by decide) rfl ?_
            have hf := Option.some.inj hf
            subst hf
            exact am_pick [0, 1, 2, 3, 4, 5, 6, 7] rfl key42
          · rw [if_pos c45] at hf
            refine am_goto (tgt := 213) (am_dec tmX12_onto_1 42 rfl) (by decide) ?_
            have hf := Option.some.inj hf
            subst hf
            exact am_pick [0, 1, 2, 3, 4, 5, 6, 7] rfl key42
set_option maxRecDepth 100000 in
set_option maxHeartbeats 4000000 in
theorem c_X12_onto {E : am_E} (hE : am_EH E) {p1 : Int32} {p2 : Int32} {D : am_D} {r : (Int32 × am_D)}  (hf : f_X12_onto p1 p2 D = some r) : am_C E mX12_onto 4 0 0 [.ref 117, .int p1, .int p2] am_G0 D (.inl (some (.int r.1))) am_G0 r.2 := by
  refine am_C_of (by decide +kernel) (Nat.le_of_ble_eq_true rfl) ?_
  change am_S E mX12_onto 4 0 0 (.inl (some (.int r.1))) am_G0 r.2 0 0 0 [(0, .ref 117), (1, .int p1), (2, .int p2)] [] am_G0 D
  unfold f_X12_onto at hf
  refine am_aload_n (am_dec tmX12_onto_0 0 rfl) rfl rfl ?_
  refine am_iconst (v := (0 : Int32)) (am_dec tmX12_onto_0 1 rfl) (by decide) ?_
  obtain ⟨D1, g2, hf⟩ := am_bd hf
  refine am_putI2 (j := 0) hE (am_dec tmX12_onto_0 2 rfl) sh_117 cf12 (by decide) rfl lf_X12_110 rfl rfl rfl g2 ?_
  refine am_aload_n (am_dec tmX12_onto_0 3 rfl) rfl rfl ?_
  refine am_aload_n (am_dec tmX12_onto_0 4 rfl) rfl rfl ?_
  refine am_iload_n (am_dec tmX12_onto_0 5 rfl) rfl rfl ?_
  obtain ⟨x4, g3, hf⟩ := am_bd hf
  refine am_callV1 (As := [.int p1]) (st := [.ref 117]) hE (am_dec tmX12_onto_0 6 rfl) ok_X12_isSound rfl lm_X12_217 in_X12_isSound se_X12_isSound sh_117 cf12 (c_X12_isSound hE g3) rfl (by decide) (Nat.le_of_ble_eq_true rfl) (Nat.zero_le _) (Nat.zero_le _) rfl ?_
  obtain ⟨w7, g61, hf⟩ := am_bd hf
  have key6 : am_S E mX12_onto 4 0 0 (.inl (some (.int r.1))) am_G0 r.2 0 0 19 [(0, .ref 117), (1, .int p1), (2, .int p2)] [.int w7, .ref 117] am_G0 D1 := by
    refine am_iconst (v := (1 : Int32)) (am_dec tmX12_onto_0 11 rfl) (by decide) ?_
    obtain ⟨x9, g8, hf⟩ := am_bd hf
    refine am_callV1 (As := [.int w7, .int (1 : Int32)]) (st := []) hE (am_dec tmX12_onto_0 12 rfl) ok_X12_bad rfl lm_X12_191 in_X12_bad se_X12_bad sh_117 cf12 (c_X12_bad hE g8) rfl (by decide) (Nat.le_of_ble_eq_true rfl) (Nat.zero_le _) (Nat.zero_le _) rfl ?_
    refine am_if_ne (tgt := 50) (am_dec tmX12_onto_0 13 rfl) (by decide) (fun c10 => ?_) (fun c10 => ?_)
    · rw [if_neg c10] at hf
      refine am_iconst (v := (0 : Int32)) (am_dec tmX12_onto_0 26 rfl) (by decide) ?_
      have hf := Option.some.inj hf
      subst hf
      exact am_iret (am_dec tmX12_onto_0 27 rfl) rfl (Nat.zero_le _) (Nat.zero_le _)
    · rw [if_pos c10] at hf
      refine am_aload_n (am_dec tmX12_onto_0 14 rfl) rfl rfl ?_
      refine am_iload_n (am_dec tmX12_onto_0 15 rfl) rfl rfl ?_
      refine am_iconst (v := (1 : Int32)) (am_dec tmX12_onto_0 16 rfl) (by decide) ?_
      refine am_sipush (v := (200 : Int32)) (am_dec tmX12_onto_0 17 rfl) (by decide) ?_
      obtain ⟨x12, g11, hf⟩ := am_bd hf
      refine am_callS1 (As := [.int p2, .int (1 : Int32), .int (200 : Int32)]) (st := [.ref 117]) (am_dec tmX12_onto_0 18 rfl) ok_X12_in rfl lm_X12_144 st_X12_in (c_X12_in hE g11) rfl (by decide) (Nat.le_of_ble_eq_true rfl) (Nat.zero_le _) (Nat.zero_le _) rfl ?_
      obtain ⟨w15, g60, hf⟩ := am_bd hf
      have key14 : am_S E mX12_onto 4 0 0 (.inl (some (.int r.1))) am_G0 r.2 0 0 43 [(0, .ref 117), (1, .int p1), (2, .int p2)] [.int w15, .ref 117] am_G0 x9.2 := by
        refine am_iconst (v := (2 : Int32)) (am_dec tmX12_onto_0 23 rfl) (by decide) ?_
        obtain ⟨x17, g16, hf⟩ := am_bd hf
        refine am_callV1 (As := [.int w15, .int (2 : Int32)]) (st := []) hE (am_dec tmX12_onto_0 24 rfl) ok_X12_bad rfl lm_X12_191 in_X12_bad se_X12_bad sh_117 cf12 (c_X12_bad hE g16) rfl (by decide) (Nat.le_of_ble_eq_true rfl) (Nat.zero_le _) (Nat.zero_le _) rfl ?_
        refine am_if_eq (tgt := 52) (am_dec tmX12_onto_0 25 rfl) (by decide) (fun c18 => ?_) (fun c18 => ?_)
        · rw [if_pos c18] at hf
          refine am_aload_n (am_dec tmX12_onto_0 28 rfl) rfl rfl ?_
          refine am_getI (j := 13) hE (am_dec tmX12_onto_0 29 rfl) sh_117 cf12 (by decide) rfl lf_X12_208 ?_
          refine am_iconst (v := (5 : Int32)) (am_dec tmX12_onto_0 30 rfl) (by decide) ?_
          refine am_icmp_ne (tgt := 62) (am_dec tmX12_onto_0 31 rfl) (by decide) (fun c19 => ?_) (fun c19 => ?_)
          · rw [if_neg c19] at hf
            refine am_aload_n (am_dec tmX12_onto_0 34 rfl) rfl rfl ?_
            refine am_aload_n (am_dec tmX12_onto_0 35 rfl) rfl rfl ?_
            refine am_getR (j := 24) hE (am_dec tmX12_onto_0 36 rfl) sh_117 cf12 (by decide) rfl lf_X12_43 rf_117_24 ?_
            refine am_iload_n (am_dec tmX12_onto_0 37 rfl) rfl rfl ?_
            obtain ⟨j20, g21, hf⟩ := am_bd hf
            have hj_j20 := (am_gA_lt g21).1
            refine am_aald2 (t := 6) hE (am_dec tmX12_onto_0 38 rfl) sh_133 (by decide) rfl rfl g21 (rr_133 hj_j20) ?_
            refine am_aload_n (am_dec tmX12_onto_0 39 rfl) rfl rfl ?_
            refine am_getR (j := 25) hE (am_dec tmX12_onto_0 40 rfl) sh_117 cf12 (by decide) rfl lf_X12_46 rf_117_25 ?_
            refine am_iload_n (am_dec tmX12_onto_0 41 rfl) rfl rfl ?_
            obtain ⟨x22, g23, hf⟩ := am_bd hf
            refine am_iald2 hE (am_dec tmX12_onto_0 42 rfl) sh_139 g23 ?_
            obtain ⟨x25, g24, hf⟩ := am_bd hf
            refine am_callV1 (As := [.ref (134 + j20), .int x22]) (st := []) hE (am_dec tmX12_onto_0 43 rfl) ok_X12_findBlows rfl lm_X12_309 in_X12_findBlows se_X12_findBlows sh_117 cf12 (c_X12_findBlows hE (am_shl (sa_133_0 hj_j20)) g24) rfl (by decide) (Nat.le_of_ble_eq_true rfl) (Nat.zero_le _) (Nat.zero_le _) rfl ?_
            refine am_istore_n (lv' := [(0, .ref 117), (1, .int p1), (2, .int p2), (3, .int x25.1)]) (am_dec tmX12_onto_0 44 rfl) rfl (by decide) rfl ?_
            refine am_iload_n (am_dec tmX12_onto_0 45 rfl) rfl rfl ?_
            refine am_iconst (v := (2 : Int32)) (am_dec tmX12_onto_0 46 rfl) (by decide) ?_
            refine am_icmp_ge (tgt := 87) (am_dec tmX12_onto_0 47 rfl) (by decide) (fun c26 => ?_) (fun c26 => ?_)
            · rw [if_pos c26] at hf
              refine am_aload_n (am_dec tmX12_onto_0 50 rfl) rfl rfl ?_
              refine am_iload_n (am_dec tmX12_onto_0 51 rfl) rfl rfl ?_
              obtain ⟨x28, g27, hf⟩ := am_bd hf
              refine am_callV1 (As := [.int x25.1]) (st := []) hE (am_dec tmX12_onto_0 52 rfl) ok_X12_beatOf rfl lm_X12_386 in_X12_beatOf se_X12_beatOf sh_117 cf12 (c_X12_beatOf hE g27) rfl (by decide) (Nat.le_of_ble_eq_true rfl) (Nat.zero_le _) (Nat.zero_le _) rfl ?_
              refine am_istore (lv' := [(0, .ref 117), (1, .int p1), (2, .int p2), (3, .int x25.1), (4, .int x28)]) (am_dec tmX12_onto_0 53 rfl) (by decide) rfl ?_
              refine am_iload (am_dec tmX12_onto_0 54 rfl) rfl ?_
              refine am_sipush (v := (200 : Int32)) (am_dec tmX12_onto_0 55 rfl) (by decide) ?_
              refine am_idiv (am_dec tmX12_onto_0 56 rfl) (by decide) ?_
              refine am_istore (lv' := [(0, .ref 117), (1, .int p1), (2, .int p2), (3, .int x25.1), (4, .int x28), (5, .int (x28 / (200 : Int32)))]) (am_dec tmX12_onto_0 57 rfl) (by decide) rfl ?_
              refine am_iload (am_dec tmX12_onto_0 58 rfl) rfl ?_
              refine am_sipush (v := (200 : Int32)) (am_dec tmX12_onto_0 59 rfl) (by decide) ?_
              obtain ⟨x29, g30, hf⟩ := am_bd hf
              refine am_irem2 (am_dec tmX12_onto_1 0 rfl) g30 ?_
              refine am_istore (lv' := [(0, .ref 117), (1, .int p1), (2, .int p2), (3, .int x25.1), (4, .int x28), (5, .int (x28 / (200 : Int32))), (6, .int x29)]) (am_dec tmX12_onto_1 1 rfl) (by decide) rfl ?_
              refine am_iconst (v := (0 : Int32)) (am_dec tmX12_onto_1 2 rfl) (by decide) ?_
              refine am_istore (lv' := [(0, .ref 117), (1, .int p1), (2, .int p2), (3, .int x25.1), (4, .int x28), (5, .int (x28 / (200 : Int32))), (6, .int x29), (7, .int (0 : Int32))]) (am_dec tmX12_onto_1 3 rfl) (by decide) rfl ?_
              refine am_iconst (v := (0 : Int32)) (am_dec tmX12_onto_1 4 rfl) (by decide) ?_
              refine am_istore (lv' := [(0, .ref 117), (1, .int p1), (2, .int p2), (3, .int x25.1), (4, .int x28), (5, .int (x28 / (200 : Int32))), (6, .int x29), (7, .int (0 : Int32)), (8, .int (0 : Int32))]) (am_dec tmX12_onto_1 5 rfl) (by decide) rfl ?_
              obtain ⟨e56, g59, hf⟩ := am_bd hf
              refine am_pick [0, 1, 2, 3, 5, 6, 7, 8] rfl (l_X12_onto_L116 hE (Nat.le_refl _) am_fu _ _ _ _ g59 (fun ex he => ?_))
              subst he
              refine am_aload_n (am_dec tmX12_onto_2 0 rfl) rfl rfl ?_
              refine am_iload_n (am_dec tmX12_onto_2 1 rfl) rfl rfl ?_
              refine am_iload (am_dec tmX12_onto_2 2 rfl) rfl ?_
              obtain ⟨x58, g57, hf⟩ := am_bd hf
              refine am_callV1 (As := [.int p1, .int e56.1]) (st := []) hE (am_dec tmX12_onto_2 3 rfl) ok_X12_endsMap rfl lm_X12_395 in_X12_endsMap se_X12_endsMap sh_117 cf12 (c_X12_endsMap hE g57) rfl (by decide) (Nat.le_of_ble_eq_true rfl) (Nat.zero_le _) (Nat.zero_le _) rfl ?_
              have hf := Option.some.inj hf
              subst hf
              exact am_iret (am_dec tmX12_onto_2 4 rfl) rfl (Nat.zero_le _) (Nat.zero_le _)
            · rw [if_neg c26] at hf
              refine am_bipush (v := (-2 : Int32)) (am_dec tmX12_onto_0 48 rfl) (by decide) ?_
              have hf := Option.some.inj hf
              subst hf
              exact am_iret (am_dec tmX12_onto_0 49 rfl) rfl (Nat.zero_le _) (Nat.zero_le _)
          · rw [if_pos c19] at hf
            refine am_iconst (v := (-1 : Int32)) (am_dec tmX12_onto_0 32 rfl) (by decide) ?_
            have hf := Option.some.inj hf
            subst hf
            exact am_iret (am_dec tmX12_onto_0 33 rfl) rfl (Nat.zero_le _) (Nat.zero_le _)
        · rw [if_neg c18] at hf
          refine am_iconst (v := (0 : Int32)) (am_dec tmX12_onto_0 26 rfl) (by decide) ?_
          have hf := Option.some.inj hf
          subst hf
          exact am_iret (am_dec tmX12_onto_0 27 rfl) rfl (Nat.zero_le _) (Nat.zero_le _)
      replace hf := g60
      refine am_if_ne (tgt := 42) (am_dec tmX12_onto_0 19 rfl) (by decide) (fun c13 => ?_) (fun c13 => ?_)
      · rw [if_neg c13] at hf
        refine am_iconst (v := (0 : Int32)) (am_dec tmX12_onto_0 22 rfl) (by decide) ?_
        have hf := Option.some.inj hf
        subst hf
        exact am_pick [0, 1, 2] rfl key14
      · rw [if_pos c13] at hf
        refine am_iconst (v := (1 : Int32)) (am_dec tmX12_onto_0 20 rfl) (by decide) ?_
        refine am_goto (tgt := 43) (am_dec tmX12_onto_0 21 rfl) (by decide) ?_
        have hf := Option.some.inj hf
        subst hf
        exact am_pick [0, 1, 2] rfl key14
  replace hf := g61
  refine am_if_ne (tgt := 18) (am_dec tmX12_onto_0 7 rfl) (by decide) (fun c5 => ?_) (fun c5 => ?_)
  · rw [if_neg c5] at hf
    refine am_iconst (v := (0 : Int32)) (am_dec tmX12_onto_0 10 rfl) (by decide) ?_
    have hf := Option.some.inj hf
    subst hf
    exact am_pick [0, 1, 2] rfl key6
  · rw [if_pos c5] at hf
    refine am_iconst (v := (1 : Int32)) (am_dec tmX12_onto_0 8 rfl) (by decide) ?_
    refine am_goto (tgt := 19) (am_dec tmX12_onto_0 9 rfl) (by decide) ?_
    have hf := Option.some.inj hf
    subst hf
    exact am_pick [0, 1, 2] rfl key6
