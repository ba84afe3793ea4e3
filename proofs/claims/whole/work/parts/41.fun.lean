def f_X12_best (p1 : Int32) (p2 : Int32) (D : am_D) : Option ((Int32 × am_D)) :=
    (some (am_wI D 117 0 (0 : Int32))).bind fun D1 =>
    (f_X12_badBoth p1 p2 D1).bind fun x4 =>
    if x4.1 = 0 then
    (f_X12_isSomeShort p1 p2 x4.2).bind fun x7 =>
    (f_X12_bad x7 (3 : Int32) x4.2).bind fun x9 =>
    if x9.1 = 0 then
    (f_X12_bestWay p1 p2 (-1 : Int32) x9.2).bind fun x12 =>
    some (x12.1, x12.2)
    else
    some ((0 : Int32), x9.2)
    else
    some ((0 : Int32), x4.2)
set_option maxRecDepth 100000 in
set_option maxHeartbeats 4000000 in
theorem c_X12_best {E : am_E} (hE : am_EH E) {p1 : Int32} {p2 : Int32} {D : am_D} {r : (Int32 × am_D)}  (hf : f_X12_best p1 p2 D = some r) : am_C E mX12_best 8 0 0 [.ref 117, .int p1, .int p2] am_G0 D (.inl (some (.int r.1))) am_G0 r.2 := by
  refine am_C_of (by decide +kernel) (Nat.le_of_ble_eq_true rfl) ?_
  change am_S E mX12_best 8 0 0 (.inl (some (.int r.1))) am_G0 r.2 0 0 0 [(0, .ref 117), (1, .int p1), (2, .int p2)] [] am_G0 D
  unfold f_X12_best at hf
  refine am_aload_n (am_dec tmX12_best 0 rfl) rfl rfl ?_
  refine am_iconst (v := (0 : Int32)) (am_dec tmX12_best 1 rfl) (by decide) ?_
  obtain ⟨D1, g2, hf⟩ := am_bd hf
  refine am_putI2 (j := 0) hE (am_dec tmX12_best 2 rfl) sh_117 cf12 (by decide) rfl lf_X12_110 rfl rfl rfl g2 ?_
  refine am_aload_n (am_dec tmX12_best 3 rfl) rfl rfl ?_
  refine am_iload_n (am_dec tmX12_best 4 rfl) rfl rfl ?_
  refine am_iload_n (am_dec tmX12_best 5 rfl) rfl rfl ?_
  obtain ⟨x4, g3, hf⟩ := am_bd hf
  refine am_callV1 (As := [.int p1, .int p2]) (st := []) hE (am_dec tmX12_best 6 rfl) ok_X12_badBoth rfl lm_X12_296 in_X12_badBoth se_X12_badBoth sh_117 cf12 (c_X12_badBoth hE g3) rfl (by decide) (Nat.le_of_ble_eq_true rfl) (Nat.zero_le _) (Nat.zero_le _) rfl ?_
  refine am_if_ne (tgt := 28) (am_dec tmX12_best 7 rfl) (by decide) (fun c5 => ?_) (fun c5 => ?_)
  · rw [if_neg c5] at hf
    refine am_iconst (v := (0 : Int32)) (am_dec tmX12_best 16 rfl) (by decide) ?_
    have hf := Option.some.inj hf
    subst hf
    exact am_iret (am_dec tmX12_best 17 rfl) rfl (Nat.zero_le _) (Nat.zero_le _)
  · rw [if_pos c5] at hf
    refine am_aload_n (am_dec tmX12_best 8 rfl) rfl rfl ?_
    refine am_aload_n (am_dec tmX12_best 9 rfl) rfl rfl ?_
    refine am_iload_n (am_dec tmX12_best 10 rfl) rfl rfl ?_
    refine am_iload_n (am_dec tmX12_best 11 rfl) rfl rfl ?_
    obtain ⟨x7, g6, hf⟩ := am_bd hf
    refine am_callV1 (As := [.int p1, .int p2]) (st := [.ref 117]) hE (am_dec tmX12_best 12 rfl) ok_X12_isSomeShort rfl lm_X12_336 in_X12_isSomeShort se_X12_isSomeShort sh_117 cf12 (c_X12_isSomeShort hE g6) rfl (by decide) (Nat.le_of_ble_eq_true rfl) (Nat.zero_le _) (Nat.zero_le _) rfl ?_
    refine am_iconst (v := (3 : Int32)) (am_dec tmX12_best 13 rfl) (by decide) ?_
    obtain ⟨x9, g8, hf⟩ := am_bd hf
    refine am_callV1 (As := [.int x7, .int (3 : Int32)]) (st := []) hE (am_dec tmX12_best 14 rfl) ok_X12_bad rfl lm_X12_191 in_X12_bad se_X12_bad sh_117 cf12 (c_X12_bad hE g8) rfl (by decide) (Nat.le_of_ble_eq_true rfl) (Nat.zero_le _) (Nat.zero_le _) rfl ?_
    refine am_if_eq (tgt := 30) (am_dec tmX12_best 15 rfl) (by decide) (fun c10 => ?_) (fun c10 => ?_)
    · rw [if_pos c10] at hf
      refine am_aload_n (am_dec tmX12_best 18 rfl) rfl rfl ?_
      refine am_iload_n (am_dec tmX12_best 19 rfl) rfl rfl ?_
      refine am_iload_n (am_dec tmX12_best 20 rfl) rfl rfl ?_
      refine am_iconst (v := (-1 : Int32)) (am_dec tmX12_best 21 rfl) (by decide) ?_
      obtain ⟨x12, g11, hf⟩ := am_bd hf
      refine am_callV1 (As := [.int p1, .int p2, .int (-1 : Int32)]) (st := []) hE (am_dec tmX12_best 22 rfl) ok_X12_bestWay rfl lm_X12_339 in_X12_bestWay se_X12_bestWay sh_117 cf12 (c_X12_bestWay hE g11) rfl (by decide) (Nat.le_of_ble_eq_true rfl) (Nat.zero_le _) (Nat.zero_le _) rfl ?_
      have hf := Option.some.inj hf
      subst hf
      exact am_iret (am_dec tmX12_best 23 rfl) rfl (Nat.zero_le _) (Nat.zero_le _)
    · rw [if_neg c10] at hf
      refine am_iconst (v := (0 : Int32)) (am_dec tmX12_best 16 rfl) (by decide) ?_
      have hf := Option.some.inj hf
      subst hf
      exact am_iret (am_dec tmX12_best 17 rfl) rfl (Nat.zero_le _) (Nat.zero_le _)
def f_X12_bestOf (p1 : Int32) (p2 : Int32) (p3 : Int32) (D : am_D) : Option ((Int32 × am_D)) :=
    (some (am_wI D 117 0 (0 : Int32))).bind fun D1 =>
    (f_X12_badBoth p1 p2 D1).bind fun x4 =>
    if x4.1 = 0 then
    (am_gI x4.2 201 5 p2).bind fun x6 =>
    (f_X12_in p3 (0 : Int32) (x6 - (1 : Int32))).bind fun x9 =>
    (if x9 = 0 then
    some ((1 : Int32))
    else
    some ((0 : Int32))).bind fun w12 =>
    (f_X12_bad w12 (3 : Int32) x4.2).bind fun x14 =>
    if x14.1 = 0 then
    (f_X12_isSomeShort p1 p2 x14.2).bind fun x17 =>
    (f_X12_bad x17 (4 : Int32) x14.2).bind fun x19 =>
    if x19.1 = 0 then
    (f_X12_bestWay p1 p2 p3 x19.2).bind fun x22 =>
    some (x22.1, x22.2)
    else
    some ((0 : Int32), x19.2)
    else
    some ((0 : Int32), x14.2)
    else
    some ((0 : Int32), x4.2)
set_option maxRecDepth 100000 in
set_option maxHeartbeats 4000000 in
theorem c_X12_bestOf {E : am_E} (hE : am_EH E) {p1 : Int32} {p2 : Int32} {p3 : Int32} {D : am_D} {r : (Int32 × am_D)}  (hf : f_X12_bestOf p1 p2 p3 D = some r) : am_C E mX12_bestOf 8 0 0 [.ref 117, .int p1, .int p2, .int p3] am_G0 D (.inl (some (.int r.1))) am_G0 r.2 := by
  refine am_C_of (by decide +kernel) (Nat.le_of_ble_eq_true rfl) ?_
  change am_S E mX12_bestOf 8 0 0 (.inl (some (.int r.1))) am_G0 r.2 0 0 0 [(0, .ref 117), (1, .int p1), (2, .int p2), (3, .int p3)] [] am_G0 D
  unfold f_X12_bestOf at hf
  refine am_aload_n (am_dec tmX12_bestOf 0 rfl) rfl rfl ?_
  refine am_iconst (v := (0 : Int32)) (am_dec tmX12_bestOf 1 rfl) (by decide) ?_
  obtain ⟨D1, g2, hf⟩ := am_bd hf
  refine am_putI2 (j := 0) hE (am_dec tmX12_bestOf 2 rfl) sh_117 cf12 (by decide) rfl lf_X12_110 rfl rfl rfl g2 ?_
  refine am_aload_n (am_dec tmX12_bestOf 3 rfl) rfl rfl ?_
  refine am_iload_n (am_dec tmX12_bestOf 4 rfl) rfl rfl ?_
  refine am_iload_n (am_dec tmX12_bestOf 5 rfl) rfl rfl ?_
  obtain ⟨x4, g3, hf⟩ := am_bd hf
  refine am_callV1 (As := [.int p1, .int p2]) (st := []) hE (am_dec tmX12_bestOf 6 rfl) ok_X12_badBoth rfl lm_X12_296 in_X12_badBoth se_X12_badBoth sh_117 cf12 (c_X12_badBoth hE g3) rfl (by decide) (Nat.le_of_ble_eq_true rfl) (Nat.zero_le _) (Nat.zero_le _) rfl ?_
  refine am_if_ne (tgt := 57) (am_dec tmX12_bestOf 7 rfl) (by decide) (fun c5 => ?_) (fun c5 => ?_)
  · rw [if_neg c5] at hf
    refine am_iconst (v := (0 : Int32)) (am_dec tmX12_bestOf 33 rfl) (by decide) ?_
    have hf := Option.some.inj hf
    subst hf
    exact am_iret (am_dec tmX12_bestOf 34 rfl) rfl (Nat.zero_le _) (Nat.zero_le _)
  · rw [if_pos c5] at hf
    refine am_aload_n (am_dec tmX12_bestOf 8 rfl) rfl rfl ?_
    refine am_iload_n (am_dec tmX12_bestOf 9 rfl) rfl rfl ?_
    refine am_iconst (v := (0 : Int32)) (am_dec tmX12_bestOf 10 rfl) (by decide) ?_
    refine am_aload_n (am_dec tmX12_bestOf 11 rfl) rfl rfl ?_
    refine am_getR (j := 27) hE (am_dec tmX12_bestOf 12 rfl) sh_117 cf12 (by decide) rfl lf_X12_52 rf_117_27 ?_
    refine am_iload_n (am_dec tmX12_bestOf 13 rfl) rfl rfl ?_
    obtain ⟨x6, g7, hf⟩ := am_bd hf
    refine am_iald2 hE (am_dec tmX12_bestOf 14 rfl) sh_201 g7 ?_
    refine am_iconst (v := (1 : Int32)) (am_dec tmX12_bestOf 15 rfl) (by decide) ?_
    refine am_isub (am_dec tmX12_bestOf 16 rfl) ?_
    obtain ⟨x9, g8, hf⟩ := am_bd hf
    refine am_callS1 (As := [.int p3, .int (0 : Int32), .int (x6 - (1 : Int32))]) (st := [.ref 117]) (am_dec tmX12_bestOf 17 rfl) ok_X12_in rfl lm_X12_144 st_X12_in (c_X12_in hE g8) rfl (by decide) (Nat.le_of_ble_eq_true rfl) (Nat.zero_le _) (Nat.zero_le _) rfl ?_
    obtain ⟨w12, g23, hf⟩ := am_bd hf
    have key11 : am_S E mX12_bestOf 8 0 0 (.inl (some (.int r.1))) am_G0 r.2 0 0 36 [(0, .ref 117), (1, .int p1), (2, .int p2), (3, .int p3)] [.int w12, .ref 117] am_G0 x4.2 := by
      refine am_iconst (v := (3 : Int32)) (am_dec tmX12_bestOf 22 rfl) (by decide) ?_
      obtain ⟨x14, g13, hf⟩ := am_bd hf
      refine am_callV1 (As := [.int w12, .int (3 : Int32)]) (st := []) hE (am_dec tmX12_bestOf 23 rfl) ok_X12_bad rfl lm_X12_191 in_X12_bad se_X12_bad sh_117 cf12 (c_X12_bad hE g13) rfl (by decide) (Nat.le_of_ble_eq_true rfl) (Nat.zero_le _) (Nat.zero_le _) rfl ?_
      refine am_if_ne (tgt := 57) (am_dec tmX12_bestOf 24 rfl) (by decide) (fun c15 => ?_) (fun c15 => ?_)
      · rw [if_neg c15] at hf
        refine am_iconst (v := (0 : Int32)) (am_dec tmX12_bestOf 33 rfl) (by decide) ?_
        have hf := Option.some.inj hf
        subst hf
        exact am_iret (am_dec tmX12_bestOf 34 rfl) rfl (Nat.zero_le _) (Nat.zero_le _)
      · rw [if_pos c15] at hf
        refine am_aload_n (am_dec tmX12_bestOf 25 rfl) rfl rfl ?_
        refine am_aload_n (am_dec tmX12_bestOf 26 rfl) rfl rfl ?_
        refine am_iload_n (am_dec tmX12_bestOf 27 rfl) rfl rfl ?_
        refine am_iload_n (am_dec tmX12_bestOf 28 rfl) rfl rfl ?_
        obtain ⟨x17, g16, hf⟩ := am_bd hf
        refine am_callV1 (As := [.int p1, .int p2]) (st := [.ref 117]) hE (am_dec tmX12_bestOf 29 rfl) ok_X12_isSomeShort rfl lm_X12_336 in_X12_isSomeShort se_X12_isSomeShort sh_117 cf12 (c_X12_isSomeShort hE g16) rfl (by decide) (Nat.le_of_ble_eq_true rfl) (Nat.zero_le _) (Nat.zero_le _) rfl ?_
        refine am_iconst (v := (4 : Int32)) (am_dec tmX12_bestOf 30 rfl) (by decide) ?_
        obtain ⟨x19, g18, hf⟩ := am_bd hf
        refine am_callV1 (As := [.int x17, .int (4 : Int32)]) (st := []) hE (am_dec tmX12_bestOf 31 rfl) ok_X12_bad rfl lm_X12_191 in_X12_bad se_X12_bad sh_117 cf12 (c_X12_bad hE g18) rfl (by decide) (Nat.le_of_ble_eq_true rfl) (Nat.zero_le _) (Nat.zero_le _) rfl ?_
        refine am_if_eq (tgt := 59) (am_dec tmX12_bestOf 32 rfl) (by decide) (fun c20 => ?_) (fun c20 => ?_)
        · rw [if_pos c20] at hf
          refine am_aload_n (am_dec tmX12_bestOf 35 rfl) rfl rfl ?_
          refine am_iload_n (am_dec tmX12_bestOf 36 rfl) rfl rfl ?_
          refine am_iload_n (am_dec tmX12_bestOf 37 rfl) rfl rfl ?_
          refine am_iload_n (am_dec tmX12_bestOf 38 rfl) rfl rfl ?_
          obtain ⟨x22, g21, hf⟩ := am_bd hf
          refine am_callV1 (As := [.int p1, .int p2, .int p3]) (st := []) hE (am_dec tmX12_bestOf 39 rfl) ok_X12_bestWay rfl lm_X12_339 in_X12_bestWay se_X12_bestWay sh_117 cf12 (c_X12_bestWay hE g21) rfl (by decide) (Nat.le_of_ble_eq_true rfl) (Nat.zero_le _) (Nat.zero_le _) rfl ?_
          have hf := Option.some.inj hf
          subst hf
          exact am_iret (am_dec tmX12_bestOf 40 rfl) rfl (Nat.zero_le _) (Nat.zero_le _)
        · rw [if_neg c20] at hf
          refine am_iconst (v := (0 : Int32)) (am_dec tmX12_bestOf 33 rfl) (by decide) ?_
          have hf := Option.some.inj hf
          subst hf
          exact am_iret (am_dec tmX12_bestOf 34 rfl) rfl (Nat.zero_le _) (Nat.zero_le _)
    replace hf := g23
    refine am_if_ne (tgt := 35) (am_dec tmX12_bestOf 18 rfl) (by decide) (fun c10 => ?_) (fun c10 => ?_)
    · rw [if_neg c10] at hf
      refine am_iconst (v := (0 : Int32)) (am_dec tmX12_bestOf 21 rfl) (by decide) ?_
      have hf := Option.some.inj hf
      subst hf
      exact am_pick [0, 1, 2, 3] rfl key11
    · rw [if_pos c10] at hf
      refine am_iconst (v := (1 : Int32)) (am_dec tmX12_bestOf 19 rfl) (by decide) ?_
      refine am_goto (tgt := 36) (am_dec tmX12_bestOf 20 rfl) (by decide) ?_
      have hf := Option.some.inj hf
      subst hf
      exact am_pick [0, 1, 2, 3] rfl key11
def f_X12_part (p1 : Int32) (p2 : Int32) (p3 : Int32) (p4 : Int32) (D : am_D) : Option ((Int32 × am_D)) :=
    (some (am_wI D 117 0 (0 : Int32))).bind fun D1 =>
    (f_X12_in p1 (1 : Int32) (600 : Int32)).bind fun x4 =>
    (if x4 = 0 then
    some ((1 : Int32))
    else
    (f_X12_in p2 (0 : Int32) (99 : Int32)).bind fun x8 =>
    if x8 = 0 then
    some ((1 : Int32))
    else
    (f_X12_in p3 (0 : Int32) (1200 : Int32)).bind fun x11 =>
    if x11 = 0 then
    some ((1 : Int32))
    else
    (f_X12_in p4 p3 (1200 : Int32)).bind fun x14 =>
    if x14 = 0 then
    some ((1 : Int32))
    else
    some ((0 : Int32))).bind fun w16 =>
    (f_X12_bad w16 (1 : Int32) D1).bind fun x18 =>
    if x18.1 = 0 then
    if (x18.2.1 117 21) = (10 : Int32) then
    some ((-1 : Int32), x18.2)
    else
    (am_gA 10 (x18.2.1 117 21)).bind fun j21 =>
    (am_pI x18.2 (211 + j21) 4 (0 : Int32) p1).bind fun D23 =>
    (am_gA 10 (D23.1 117 21)).bind fun j25 =>
    (am_pI D23 (211 + j25) 4 (1 : Int32) p2).bind fun D27 =>
    (am_gA 10 (D27.1 117 21)).bind fun j29 =>
    (am_pI D27 (211 + j29) 4 (2 : Int32) p3).bind fun D31 =>
    (am_gA 10 (D31.1 117 21)).bind fun j33 =>
    (am_pI D31 (211 + j33) 4 (3 : Int32) p4).bind fun D35 =>
    (some (am_wI D35 117 21 ((D35.1 117 21) + (1 : Int32)))).bind fun D37 =>
    some ((D37.1 117 21), D37)
    else
    some ((0 : Int32), x18.2)
set_option maxRecDepth 100000 in
set_option maxHeartbeats 4000000 in
theorem c_X12_part {E : am_E} (hE : am_EH E) {p1 : Int32} {p2 : Int32} {p3 : Int32} {p4 : Int32} {D : am_D} {r : (Int32 × am_D)}  (hf : f_X12_part p1 p2 p3 p4 D = some r) : am_C E mX12_part 2 0 0 [.ref 117, .int p1, .int p2, .int p3, .int p4] am_G0 D (.inl (some (.int r.1))) am_G0 r.2 := by
  refine am_C_of (by decide +kernel) (Nat.le_of_ble_eq_true rfl) ?_
  change am_S E mX12_part 2 0 0 (.inl (some (.int r.1))) am_G0 r.2 0 0 0 [(0, .ref 117), (1, .int p1), (2, .int p2), (3, .int p3), (4, .int p4)] [] am_G0 D
  unfold f_X12_part at hf
  refine am_aload_n (am_dec tmX12_part_0 0 rfl) rfl rfl ?_
  refine am_iconst (v := (0 : Int32)) (am_dec tmX12_part_0 1 rfl) (by decide) ?_
  obtain ⟨D1, g2, hf⟩ := am_bd hf
  refine am_putI2 (j := 0) hE (am_dec tmX12_part_0 2 rfl) sh_117 cf12 (by decide) rfl lf_X12_110 rfl rfl rfl g2 ?_
  refine am_aload_n (am_dec tmX12_part_0 3 rfl) rfl rfl ?_
  refine am_iload_n (am_dec tmX12_part_0 4 rfl) rfl rfl ?_
  refine am_iconst (v := (1 : Int32)) (am_dec tmX12_part_0 5 rfl) (by decide) ?_
  refine am_sipush (v := (600 : Int32)) (am_dec tmX12_part_0 6 rfl) (by decide) ?_
  obtain ⟨x4, g3, hf⟩ := am_bd hf
  refine am_callS1 (As := [.int p1, .int (1 : Int32), .int (600 : Int32)]) (st := [.ref 117]) (am_dec tmX12_part_0 7 rfl) ok_X12_in rfl lm_X12_144 st_X12_in (c_X12_in hE g3) rfl (by decide) (Nat.le_of_ble_eq_true rfl) (Nat.zero_le _) (Nat.zero_le _) rfl ?_
  obtain ⟨w16, g39, hf⟩ := am_bd hf
  have key6 : am_S E mX12_part 2 0 0 (.inl (some (.int r.1))) am_G0 r.2 0 0 55 [(0, .ref 117), (1, .int p1), (2, .int p2), (3, .int p3), (4, .int p4)] [.int w16, .ref 117] am_G0 D1 := by
    refine am_iconst (v := (1 : Int32)) (am_dec tmX12_part_0 27 rfl) (by decide) ?_
    obtain ⟨x18, g17, hf⟩ := am_bd hf
    refine am_callV1 (As := [.int w16, .int (1 : Int32)]) (st := []) hE (am_dec tmX12_part_0 28 rfl) ok_X12_bad rfl lm_X12_191 in_X12_bad se_X12_bad sh_117 cf12 (c_X12_bad hE g17) rfl (by decide) (Nat.le_of_ble_eq_true rfl) (Nat.zero_le _) (Nat.zero_le _) rfl ?_
    refine am_if_eq (tgt := 64) (am_dec tmX12_part_0 29 rfl) (by decide) (fun c19 => ?_) (fun c19 => ?_)
    · rw [if_pos c19] at hf
      refine am_aload_n (am_dec tmX12_part_0 32 rfl) rfl rfl ?_
      refine am_getI (j := 21) hE (am_dec tmX12_part_0 33 rfl) sh_117 cf12 (by decide) rfl lf_X12_342 ?_
      refine am_bipush (v := (10 : Int32)) (am_dec tmX12_part_0 34 rfl) (by decide) ?_
      refine am_icmp_ne (tgt := 75) (am_dec tmX12_part_0 35 rfl) (by decide) (fun c20 => ?_) (fun c20 => ?_)
      · rw [if_neg c20] at hf
        refine am_aload_n (am_dec tmX12_part_0 38 rfl) rfl rfl ?_
        refine am_getR (j := 32) hE (am_dec tmX12_part_0 39 rfl) sh_117 cf12 (by decide) rfl lf_X12_67 rf_117_32 ?_
        refine am_aload_n (am_dec tmX12_part_0 40 rfl) rfl rfl ?_
        refine am_getI (j := 21) hE (am_dec tmX12_part_0 41 rfl) sh_117 cf12 (by decide) rfl lf_X12_342 ?_
        obtain ⟨j21, g22, hf⟩ := am_bd hf
        have hj_j21 := (am_gA_lt g22).1
        refine am_aald2 (t := 6) hE (am_dec tmX12_part_0 42 rfl) sh_210 (by decide) rfl rfl g22 (rr_210 hj_j21) ?_
        refine am_iconst (v := (0 : Int32)) (am_dec tmX12_part_0 43 rfl) (by decide) ?_
        refine am_iload_n (am_dec tmX12_part_0 44 rfl) rfl rfl ?_
        obtain ⟨D23, g24, hf⟩ := am_bd hf
        refine am_iast2 hE (am_dec tmX12_part_0 45 rfl) (sa_210_0 hj_j21) g24 ?_
        refine am_aload_n (am_dec tmX12_part_0 46 rfl) rfl rfl ?_
        refine am_getR (j := 32) hE (am_dec tmX12_part_0 47 rfl) sh_117 cf12 (by decide) rfl lf_X12_67 rf_117_32 ?_
        refine am_aload_n (am_dec tmX12_part_0 48 rfl) rfl rfl ?_
        refine am_getI (j := 21) hE (am_dec tmX12_part_0 49 rfl) sh_117 cf12 (by decide) rfl lf_X12_342 ?_
        obtain ⟨j25, g26, hf⟩ := am_bd hf
        have hj_j25 := (am_gA_lt g26).1
        refine am_aald2 (t := 6) hE (am_dec tmX12_part_0 50 rfl) sh_210 (by decide) rfl rfl g26 (rr_210 hj_j25) ?_
        refine am_iconst (v := (1 : Int32)) (am_dec tmX12_part_0 51 rfl) (by decide) ?_
        refine am_iload_n (am_dec tmX12_part_0 52 rfl) rfl rfl ?_
        obtain ⟨D27, g28, hf⟩ := am_bd hf
        refine am_iast2 hE (am_dec tmX12_part_0 53 rfl) (sa_210_0 hj_j25) g28 ?_
        refine am_aload_n (am_dec tmX12_part_0 54 rfl) rfl rfl ?_
        refine am_getR (j := 32) hE (am_dec tmX12_part_0 55 rfl) sh_117 cf12 (by decide) rfl lf_X12_67 rf_117_32 ?_
        refine am_aload_n (am_dec tmX12_part_0 56 rfl) rfl rfl ?_
        refine am_getI (j := 21) hE (am_dec tmX12_part_0 57 rfl) sh_117 cf12 (by decide) rfl lf_X12_342 ?_
        obtain ⟨j29, g30, hf⟩ := am_bd hf
        have hj_j29 := (am_gA_lt g30).1
        refine am_aald2 (t := 6) hE (am_dec tmX12_part_0 58 rfl) sh_210 (by decide) rfl rfl g30 (rr_210 hj_j29) ?_
        refine am_iconst (v := (2 : Int32)) (am_dec tmX12_part_0 59 rfl) (by decide) ?_
        refine am_iload_n (am_dec tmX12_part_1 0 rfl) rfl rfl ?_
        obtain ⟨D31, g32, hf⟩ := am_bd hf
        refine am_iast2 hE (am_dec tmX12_part_1 1 rfl) (sa_210_0 hj_j29) g32 ?_
        refine am_aload_n (am_dec tmX12_part_1 2 rfl) rfl rfl ?_
        refine am_getR (j := 32) hE (am_dec tmX12_part_1 3 rfl) sh_117 cf12 (by decide) rfl lf_X12_67 rf_117_32 ?_
        refine am_aload_n (am_dec tmX12_part_1 4 rfl) rfl rfl ?_
        refine am_getI (j := 21) hE (am_dec tmX12_part_1 5 rfl) sh_117 cf12 (by decide) rfl lf_X12_342 ?_
        obtain ⟨j33, g34, hf⟩ := am_bd hf
        have hj_j33 := (am_gA_lt g34).1
        refine am_aald2 (t := 6) hE (am_dec tmX12_part_1 6 rfl) sh_210 (by decide) rfl rfl g34 (rr_210 hj_j33) ?_
        refine am_iconst (v := (3 : Int32)) (am_dec tmX12_part_1 7 rfl) (by decide) ?_
        refine am_iload (am_dec tmX12_part_1 8 rfl) rfl ?_
        obtain ⟨D35, g36, hf⟩ := am_bd hf
        refine am_iast2 hE (am_dec tmX12_part_1 9 rfl) (sa_210_0 hj_j33) g36 ?_
        refine am_aload_n (am_dec tmX12_part_1 10 rfl) rfl rfl ?_
        refine am_dup (am_dec tmX12_part_1 11 rfl) rfl ?_
        refine am_getI (j := 21) hE (am_dec tmX12_part_1 12 rfl) sh_117 cf12 (by decide) rfl lf_X12_342 ?_
        refine am_iconst (v := (1 : Int32)) (am_dec tmX12_part_1 13 rfl) (by decide) ?_
        refine am_iadd (am_dec tmX12_part_1 14 rfl) ?_
        obtain ⟨D37, g38, hf⟩ := am_bd hf
        refine am_putI2 (j := 21) hE (am_dec tmX12_part_1 15 rfl) sh_117 cf12 (by decide) rfl lf_X12_342 rfl rfl rfl g38 ?_
        refine am_aload_n (am_dec tmX12_part_1 16 rfl) rfl rfl ?_
        refine am_getI (j := 21) hE (am_dec tmX12_part_1 17 rfl) sh_117 cf12 (by decide) rfl lf_X12_342 ?_
        have hf := Option.some.inj hf
        subst hf
        exact am_iret (am_dec tmX12_part_1 18 rfl) rfl (Nat.zero_le _) (Nat.zero_le _)
      · rw [if_pos c20] at hf
        refine am_iconst (v := (-1 : Int32)) (am_dec tmX12_part_0 36 rfl) (by decide) ?_
        have hf := Option.some.inj hf
        subst hf
        exact am_iret (am_dec tmX12_part_0 37 rfl) rfl (Nat.zero_le _) (Nat.zero_le _)
    · rw [if_neg c19] at hf
      refine am_iconst (v := (0 : Int32)) (am_dec tmX12_part_0 30 rfl) (by decide) ?_
      have hf := Option.some.inj hf
      subst hf
      exact am_iret (am_dec tmX12_part_0 31 rfl) rfl (Nat.zero_le _) (Nat.zero_le _)
  replace hf := g39
  refine am_if_eq (tgt := 50) (am_dec tmX12_part_0 8 rfl) (by decide) (fun c5 => ?_) (fun c5 => ?_)
  · rw [if_pos c5] at hf
    refine am_iconst (v := (1 : Int32)) (am_dec tmX12_part_0 24 rfl) (by decide) ?_
    refine am_goto (tgt := 55) (am_dec tmX12_part_0 25 rfl) (by decide) ?_
    have hf := Option.some.inj hf
    subst hf
    exact am_pick [0, 1, 2, 3, 4] rfl key6
  · rw [if_neg c5] at hf
    refine am_iload_n (am_dec tmX12_part_0 9 rfl) rfl rfl ?_
    refine am_iconst (v := (0 : Int32)) (am_dec tmX12_part_0 10 rfl) (by decide) ?_
    refine am_bipush (v := (99 : Int32)) (am_dec tmX12_part_0 11 rfl) (by decide) ?_
    obtain ⟨x8, g7, hf⟩ := am_bd hf
    refine am_callS1 (As := [.int p2, .int (0 : Int32), .int (99 : Int32)]) (st := [.ref 117]) (am_dec tmX12_part_0 12 rfl) ok_X12_in rfl lm_X12_144 st_X12_in (c_X12_in hE g7) rfl (by decide) (Nat.le_of_ble_eq_true rfl) (Nat.zero_le _) (Nat.zero_le _) rfl ?_
    refine am_if_eq (tgt := 50) (am_dec tmX12_part_0 13 rfl) (by decide) (fun c9 => ?_) (fun c9 => ?_)
    · rw [if_pos c9] at hf
      refine am_iconst (v := (1 : Int32)) (am_dec tmX12_part_0 24 rfl) (by decide) ?_
      refine am_goto (tgt := 55) (am_dec tmX12_part_0 25 rfl) (by decide) ?_
      have hf := Option.some.inj hf
      subst hf
      exact am_pick [0, 1, 2, 3, 4] rfl key6
    · rw [if_neg c9] at hf
      refine am_iload_n (am_dec tmX12_part_0 14 rfl) rfl rfl ?_
      refine am_iconst (v := (0 : Int32)) (am_dec tmX12_part_0 15 rfl) (by decide) ?_
      refine am_sipush (v := (1200 : Int32)) (am_dec tmX12_part_0 16 rfl) (by decide) ?_
      obtain ⟨x11, g10, hf⟩ := am_bd hf
      refine am_callS1 (As := [.int p3, .int (0 : Int32), .int (1200 : Int32)]) (st := [.ref 117]) (am_dec tmX12_part_0 17 rfl) ok_X12_in rfl lm_X12_144 st_X12_in (c_X12_in hE g10) rfl (by decide) (Nat.le_of_ble_eq_true rfl) (Nat.zero_le _) (Nat.zero_le _) rfl ?_
      refine am_if_eq (tgt := 50) (am_dec tmX12_part_0 18 rfl) (by decide) (fun c12 => ?_) (fun c12 => ?_)
      · rw [if_pos c12] at hf
        refine am_iconst (v := (1 : Int32)) (am_dec tmX12_part_0 24 rfl) (by decide) ?_
        refine am_goto (tgt := 55) (am_dec tmX12_part_0 25 rfl) (by decide) ?_
        have hf := Option.some.inj hf
        subst hf
        exact am_pick [0, 1, 2, 3, 4] rfl key6
      · rw [if_neg c12] at hf
        refine am_iload (am_dec tmX12_part_0 19 rfl) rfl ?_
        refine am_iload_n (am_dec tmX12_part_0 20 rfl) rfl rfl ?_
        refine am_sipush (v := (1200 : Int32)) (am_dec tmX12_part_0 21 rfl) (by decide) ?_
        obtain ⟨x14, g13, hf⟩ := am_bd hf
        refine am_callS1 (As := [.int p4, .int p3, .int (1200 : Int32)]) (st := [.ref 117]) (am_dec tmX12_part_0 22 rfl) ok_X12_in rfl lm_X12_144 st_X12_in (c_X12_in hE g13) rfl (by decide) (Nat.le_of_ble_eq_true rfl) (Nat.zero_le _) (Nat.zero_le _) rfl ?_
        refine am_if_ne (tgt := 54) (am_dec tmX12_part_0 23 rfl) (by decide) (fun c15 => ?_) (fun c15 => ?_)
        · rw [if_neg c15] at hf
          refine am_iconst (v := (0 : Int32)) (am_dec tmX12_part_0 26 rfl) (by decide) ?_
          have hf := Option.some.inj hf
          subst hf
          exact am_pick [0, 1, 2, 3, 4] rfl key6
        · rw [if_pos c15] at hf
          refine am_iconst (v := (1 : Int32)) (am_dec tmX12_part_0 24 rfl) (by decide) ?_
          refine am_goto (tgt := 55) (am_dec tmX12_part_0 25 rfl) (by decide) ?_
          have hf := Option.some.inj hf
          subst hf
          exact am_pick [0, 1, 2, 3, 4] rfl key6
def f_X12_plans_L4  : Nat → Int32 → Int32 → am_D → Option (Int32 × am_D)
  | 0, _, _, _ => none
  | n + 1, v2, v3, D =>
    if (D.1 117 21) ≤ v3 then
    some (v2, D)
    else
    (am_gA 10 v3).bind fun j2 =>
    (am_gI D (211 + j2) 4 (0 : Int32)).bind fun x4 =>
    (am_gA 10 v3).bind fun j6 =>
    (am_gI D (211 + j6) 4 (2 : Int32)).bind fun x8 =>
    (am_gA 10 v3).bind fun j10 =>
    (am_gI D (211 + j10) 4 (3 : Int32)).bind fun x12 =>
    (f_X12_within x4 x8 x12).bind fun x15 =>
    (am_pI D 204 10 v3 x15).bind fun D16 =>
    (am_gI D16 204 10 v3).bind fun x18 =>
    f_X12_plans_L4 n (v2 - x18) (v3 + (1 : Int32)) D16
def f_X12_plans_L71 (q3 : Int32) : Nat → Int32 → Int32 → am_D → Option (Int32 × am_D)
  | 0, _, _, _ => none
  | n + 1, v2, v4, D =>
    if (D.1 117 21) ≤ v4 then
    some (v2, D)
    else
    (am_gA 10 v4).bind fun j23 =>
    (am_gI D (211 + j23) 4 (1 : Int32)).bind fun x25 =>
    (if x25 = q3 then
    (am_gA 10 v4).bind fun j29 =>
    (am_gI D (211 + j29) 4 (2 : Int32)).bind fun x31 =>
    (am_gI D 204 10 v4).bind fun x33 =>
    (am_gA 10 v4).bind fun j35 =>
    (am_gI D (211 + j35) 4 (3 : Int32)).bind fun x37 =>
    (am_gI D 204 10 v4).bind fun x39 =>
    (f_X12_within v2 (x31 - x33) (x37 - x39)).bind fun x42 =>
    (am_gI D 204 10 v4).bind fun x43 =>
    (am_pI D 204 10 v4 (x43 + x42)).bind fun D45 =>
    some ((v2 - x42), D45)
    else
    some (v2, D)).bind fun w47 =>
    f_X12_plans_L71 q3 n w47.1 (v4 + (1 : Int32)) w47.2
def f_X12_plans_L62  : Nat → Int32 → Int32 → am_D → Option (Int32 × am_D)
  | 0, _, _, _ => none
  | n + 1, v2, v3, D =>
    if (100 : Int32) ≤ v3 then
    some (v2, D)
    else
    (f_X12_plans_L71 v3 am_fu v2 (0 : Int32) D).bind fun e49 =>
    f_X12_plans_L62 n e49.1 (v3 + (1 : Int32)) e49.2
def f_X12_plans (p1 : Int32) (D : am_D) : Option ((Int32 × am_D)) :=
    (f_X12_plans_L4 am_fu p1 (0 : Int32) D).bind fun e20 =>
    (f_X12_plans_L62 am_fu e20.1 (0 : Int32) e20.2).bind fun e51 =>
    if e51.1 = 0 then
    some ((1 : Int32), e51.2)
    else
    some ((0 : Int32), e51.2)
set_option maxRecDepth 100000 in
set_option maxHeartbeats 4000000 in
theorem l_X12_plans_L4 {E : am_E} (hE : am_EH E) {d mc ms : Nat} {o : am_O} {G2 : am_G} {D2 : am_D} (hdp : 2 ≤ d)   : ∀ (n : Nat) (v2 : Int32) (v3 : Int32) (D : am_D) (ex0 : Int32 × am_D), f_X12_plans_L4  n v2 v3 D = some ex0 → (∀ ex : Int32 × am_D, ex0 = ex → am_S E mX12_plans d mc ms o G2 D2 0 0 60 [(0, .ref 117), (2, .int ex.1)] [] am_G0 ex.2) → am_S E mX12_plans d mc ms o G2 D2 0 0 4 [(0, .ref 117), (2, .int v2), (3, .int v3)] [] am_G0 D
  | 0, _, _, _, _, hf, _ => by
    unfold f_X12_plans_L4 at hf
    cases hf
  | n + 1, v2, v3, D, ex0, hf, hk0 => by
    unfold f_X12_plans_L4 at hf
    refine am_iload_n (am_dec tmX12_plans_0 4 rfl) rfl rfl ?_
    refine am_aload_n (am_dec tmX12_plans_0 5 rfl) rfl rfl ?_
    refine am_getI (j := 21) hE (am_dec tmX12_plans_0 6 rfl) sh_117 cf12 (by decide) rfl lf_X12_342 ?_
    refine am_icmp_ge (tgt := 60) (am_dec tmX12_plans_0 7 rfl) (by decide) (fun c1 => ?_) (fun c1 => ?_)
    · rw [if_pos c1] at hf
      have hf := Option.some.inj hf
      subst hf
      exact am_pick [0, 1] rfl (hk0 _ rfl)
    · rw [if_neg c1] at hf
      refine am_aload_n (am_dec tmX12_plans_0 8 rfl) rfl rfl ?_
      refine am_getR (j := 30) hE (am_dec tmX12_plans_0 9 rfl) sh_117 cf12 (by decide) rfl lf_X12_61 rf_117_30 ?_
      refine am_iload_n (am_dec tmX12_plans_0 10 rfl) rfl rfl ?_
      refine am_aload_n (am_dec tmX12_plans_0 11 rfl) rfl rfl ?_
      refine am_getR (j := 32) hE (am_dec tmX12_plans_0 12 rfl) sh_117 cf12 (by decide) rfl lf_X12_67 rf_117_32 ?_
      refine am_iload_n (am_dec tmX12_plans_0 13 rfl) rfl rfl ?_
      obtain ⟨j2, g3, hf⟩ := am_bd hf
      have hj_j2 := (am_gA_lt g3).1
      refine am_aald2 (t := 6) hE (am_dec tmX12_plans_0 14 rfl) sh_210 (by decide) rfl rfl g3 (rr_210 hj_j2) ?_
      refine am_iconst (v := (0 : Int32)) (am_dec tmX12_plans_0 15 rfl) (by decide) ?_
      obtain ⟨x4, g5, hf⟩ := am_bd hf
      refine am_iald2 hE (am_dec tmX12_plans_0 16 rfl) (sa_210_0 hj_j2) g5 ?_
      refine am_aload_n (am_dec tmX12_plans_0 17 rfl) rfl rfl ?_
      refine am_getR (j := 32) hE (am_dec tmX12_plans_0 18 rfl) sh_117 cf12 (by decide) rfl lf_X12_67 rf_117_32 ?_
      refine am_iload_n (am_dec tmX12_plans_0 19 rfl) rfl rfl ?_
      obtain ⟨j6, g7, hf⟩ := am_bd hf
      have hj_j6 := (am_gA_lt g7).1
      refine am_aald2 (t := 6) hE (am_dec tmX12_plans_0 20 rfl) sh_210 (by decide) rfl rfl g7 (rr_210 hj_j6) ?_
      refine am_iconst (v := (2 : Int32)) (am_dec tmX12_plans_0 21 rfl) (by decide) ?_
      obtain ⟨x8, g9, hf⟩ := am_bd hf
      refine am_iald2 hE (am_dec tmX12_plans_0 22 rfl) (sa_210_0 hj_j6) g9 ?_
      refine am_aload_n (am_dec tmX12_plans_0 23 rfl) rfl rfl ?_
      refine am_getR (j := 32) hE (am_dec tmX12_plans_0 24 rfl) sh_117 cf12 (by decide) rfl lf_X12_67 rf_117_32 ?_
      refine am_iload_n (am_dec tmX12_plans_0 25 rfl) rfl rfl ?_
      obtain ⟨j10, g11, hf⟩ := am_bd hf
      have hj_j10 := (am_gA_lt g11).1
      refine am_aald2 (t := 6) hE (am_dec tmX12_plans_0 26 rfl) sh_210 (by decide) rfl rfl g11 (rr_210 hj_j10) ?_
      refine am_iconst (v := (3 : Int32)) (am_dec tmX12_plans_0 27 rfl) (by decide) ?_
      obtain ⟨x12, g13, hf⟩ := am_bd hf
      refine am_iald2 hE (am_dec tmX12_plans_0 28 rfl) (sa_210_0 hj_j10) g13 ?_
      obtain ⟨x15, g14, hf⟩ := am_bd hf
      refine am_callS1 (As := [.int x4, .int x8, .int x12]) (st := [.int v3, .ref 204]) (am_dec tmX12_plans_0 29 rfl) ok_X12_within rfl lm_X12_187 st_X12_within (c_X12_within hE g14) rfl (Nat.lt_of_lt_of_le (by decide) hdp) (Nat.le_of_ble_eq_true rfl) (Nat.zero_le _) (Nat.zero_le _) rfl ?_
      obtain ⟨D16, g17, hf⟩ := am_bd hf
      refine am_iast2 hE (am_dec tmX12_plans_0 30 rfl) sh_204 g17 ?_
      refine am_iload_n (am_dec tmX12_plans_0 31 rfl) rfl rfl ?_
      refine am_aload_n (am_dec tmX12_plans_0 32 rfl) rfl rfl ?_
      refine am_getR (j := 30) hE (am_dec tmX12_plans_0 33 rfl) sh_117 cf12 (by decide) rfl lf_X12_61 rf_117_30 ?_
      refine am_iload_n (am_dec tmX12_plans_0 34 rfl) rfl rfl ?_
      obtain ⟨x18, g19, hf⟩ := am_bd hf
      refine am_iald2 hE (am_dec tmX12_plans_0 35 rfl) sh_204 g19 ?_
      refine am_isub (am_dec tmX12_plans_0 36 rfl) ?_
      refine am_istore_n (lv' := [(0, .ref 117), (2, .int (v2 - x18)), (3, .int v3)]) (am_dec tmX12_plans_0 37 rfl) rfl (by decide) rfl ?_
      refine am_iinc (v := (1 : Int32)) (lv' := [(0, .ref 117), (2, .int (v2 - x18)), (3, .int (v3 + (1 : Int32)))]) (am_dec tmX12_plans_0 38 rfl) rfl (by decide) (by decide) rfl ?_
      refine am_goto (tgt := 4) (am_dec tmX12_plans_0 39 rfl) (by decide) ?_
      exact am_pick [0, 1, 2] rfl (l_X12_plans_L4 hE hdp n (v2 - x18) (v3 + (1 : Int32)) D16 ex0 hf hk0)
set_option maxRecDepth 100000 in
set_option maxHeartbeats 4000000 in
theorem l_X12_plans_L71 {E : am_E} (hE : am_EH E) {d mc ms : Nat} {o : am_O} {G2 : am_G} {D2 : am_D} (hdp : 2 ≤ d) {q3 : Int32}  : ∀ (n : Nat) (v2 : Int32) (v4 : Int32) (D : am_D) (ex0 : Int32 × am_D), f_X12_plans_L71 q3 n v2 v4 D = some ex0 → (∀ ex : Int32 × am_D, ex0 = ex → am_S E mX12_plans d mc ms o G2 D2 0 0 159 [(0, .ref 117), (2, .int ex.1), (3, .int q3)] [] am_G0 ex.2) → am_S E mX12_plans d mc ms o G2 D2 0 0 71 [(0, .ref 117), (2, .int v2), (3, .int q3), (4, .int v4)] [] am_G0 D
  | 0, _, _, _, _, hf, _ => by
    unfold f_X12_plans_L71 at hf
    cases hf
  | n + 1, v2, v4, D, ex0, hf, hk0 => by
    unfold f_X12_plans_L71 at hf
    refine am_iload (am_dec tmX12_plans_0 47 rfl) rfl ?_
    refine am_aload_n (am_dec tmX12_plans_0 48 rfl) rfl rfl ?_
    refine am_getI (j := 21) hE (am_dec tmX12_plans_0 49 rfl) sh_117 cf12 (by decide) rfl lf_X12_342 ?_
    refine am_icmp_ge (tgt := 159) (am_dec tmX12_plans_0 50 rfl) (by decide) (fun c22 => ?_) (fun c22 => ?_)
    · rw [if_pos c22] at hf
      have hf := Option.some.inj hf
      subst hf
      exact am_pick [0, 1, 2] rfl (hk0 _ rfl)
    · rw [if_neg c22] at hf
      refine am_aload_n (am_dec tmX12_plans_0 51 rfl) rfl rfl ?_
      refine am_getR (j := 32) hE (am_dec tmX12_plans_0 52 rfl) sh_117 cf12 (by decide) rfl lf_X12_67 rf_117_32 ?_
      refine am_iload (am_dec tmX12_plans_0 53 rfl) rfl ?_
      obtain ⟨j23, g24, hf⟩ := am_bd hf
      have hj_j23 := (am_gA_lt g24).1
      refine am_aald2 (t := 6) hE (am_dec tmX12_plans_0 54 rfl) sh_210 (by decide) rfl rfl g24 (rr_210 hj_j23) ?_
      refine am_iconst (v := (1 : Int32)) (am_dec tmX12_plans_0 55 rfl) (by decide) ?_
      obtain ⟨x25, g26, hf⟩ := am_bd hf
      refine am_iald2 hE (am_dec tmX12_plans_0 56 rfl) (sa_210_0 hj_j23) g26 ?_
      refine am_iload_n (am_dec tmX12_plans_0 57 rfl) rfl rfl ?_
      obtain ⟨w47, g48, hf⟩ := am_bd hf
      have key28 : am_S E mX12_plans d mc ms o G2 D2 0 0 153 [(0, .ref 117), (2, .int w47.1), (3, .int q3), (4, .int v4)] [] am_G0 w47.2 := by
        refine am_iinc (v := (1 : Int32)) (lv' := [(0, .ref 117), (2, .int w47.1), (3, .int q3), (4, .int (v4 + (1 : Int32)))]) (am_dec tmX12_plans_1 37 rfl) rfl (by decide) (by decide) rfl ?_
        refine am_goto (tgt := 71) (am_dec tmX12_plans_1 38 rfl) (by decide) ?_
        exact am_pick [0, 1, 2, 3] rfl (l_X12_plans_L71 hE hdp n w47.1 (v4 + (1 : Int32)) w47.2 ex0 hf hk0)
      replace hf := g48
      refine am_icmp_eq (tgt := 96) (am_dec tmX12_plans_0 58 rfl) (by decide) (fun c27 => ?_) (fun c27 => ?_)
      · rw [if_pos c27] at hf
        refine am_iload_n (am_dec tmX12_plans_1 0 rfl) rfl rfl ?_
        refine am_aload_n (am_dec tmX12_plans_1 1 rfl) rfl rfl ?_
        refine am_getR (j := 32) hE (am_dec tmX12_plans_1 2 rfl) sh_117 cf12 (by decide) rfl lf_X12_67 rf_117_32 ?_
        refine am_iload (am_dec tmX12_plans_1 3 rfl) rfl ?_
        obtain ⟨j29, g30, hf⟩ := am_bd hf
        have hj_j29 := (am_gA_lt g30).1
        refine am_aald2 (t := 6) hE (am_dec tmX12_plans_1 4 rfl) sh_210 (by decide) rfl rfl g30 (rr_210 hj_j29) ?_
        refine am_iconst (v := (2 : Int32)) (am_dec tmX12_plans_1 5 rfl) (by decide) ?_
        obtain ⟨x31, g32, hf⟩ := am_bd hf
        refine am_iald2 hE (am_dec tmX12_plans_1 6 rfl) (sa_210_0 hj_j29) g32 ?_
        refine am_aload_n (am_dec tmX12_plans_1 7 rfl) rfl rfl ?_
        refine am_getR (j := 30) hE (am_dec tmX12_plans_1 8 rfl) sh_117 cf12 (by decide) rfl lf_X12_61 rf_117_30 ?_
        refine am_iload (am_dec tmX12_plans_1 9 rfl) rfl ?_
        obtain ⟨x33, g34, hf⟩ := am_bd hf
        refine am_iald2 hE (am_dec tmX12_plans_1 10 rfl) sh_204 g34 ?_
        refine am_isub (am_dec tmX12_plans_1 11 rfl) ?_
        refine am_aload_n (am_dec tmX12_plans_1 12 rfl) rfl rfl ?_
        refine am_getR (j := 32) hE (am_dec tmX12_plans_1 13 rfl) sh_117 cf12 (by decide) rfl lf_X12_67 rf_117_32 ?_
        refine am_iload (am_dec tmX12_plans_1 14 rfl) rfl ?_
        obtain ⟨j35, g36, hf⟩ := am_bd hf
        have hj_j35 := (am_gA_lt g36).1
        refine am_aald2 (t := 6) hE (am_dec tmX12_plans_1 15 rfl) sh_210 (by decide) rfl rfl g36 (rr_210 hj_j35) ?_
        refine am_iconst (v := (3 : Int32)) (am_dec tmX12_plans_1 16 rfl) (by decide) ?_
        obtain ⟨x37, g38, hf⟩ := am_bd hf
        refine am_iald2 hE (am_dec tmX12_plans_1 17 rfl) (sa_210_0 hj_j35) g38 ?_
        refine am_aload_n (am_dec tmX12_plans_1 18 rfl) rfl rfl ?_
        refine am_getR (j := 30) hE (am_dec tmX12_plans_1 19 rfl) sh_117 cf12 (by decide) rfl lf_X12_61 rf_117_30 ?_
        refine am_iload (am_dec tmX12_plans_1 20 rfl) rfl ?_
        obtain ⟨x39, g40, hf⟩ := am_bd hf
        refine am_iald2 hE (am_dec tmX12_plans_1 21 rfl) sh_204 g40 ?_
        refine am_isub (am_dec tmX12_plans_1 22 rfl) ?_
        obtain ⟨x42, g41, hf⟩ := am_bd hf
        refine am_callS1 (As := [.int v2, .int (x31 - x33), .int (x37 - x39)]) (st := []) (am_dec tmX12_plans_1 23 rfl) ok_X12_within rfl lm_X12_187 st_X12_within (c_X12_within hE g41) rfl (Nat.lt_of_lt_of_le (by decide) hdp) (Nat.le_of_ble_eq_true rfl) (Nat.zero_le _) (Nat.zero_le _) rfl ?_
        refine am_istore (lv' := [(0, .ref 117), (2, .int v2), (3, .int q3), (4, .int v4), (5, .int x42)]) (am_dec tmX12_plans_1 24 rfl) (by decide) rfl ?_
        refine am_aload_n (am_dec tmX12_plans_1 25 rfl) rfl rfl ?_
        refine am_getR (j := 30) hE (am_dec tmX12_plans_1 26 rfl) sh_117 cf12 (by decide) rfl lf_X12_61 rf_117_30 ?_
        refine am_iload (am_dec tmX12_plans_1 27 rfl) rfl ?_
        refine am_dup2 (am_dec tmX12_plans_1 28 rfl) rfl rfl ?_
        obtain ⟨x43, g44, hf⟩ := am_bd hf
        refine am_iald2 hE (am_dec tmX12_plans_1 29 rfl) sh_204 g44 ?_
        refine am_iload (am_dec tmX12_plans_1 30 rfl) rfl ?_
        refine am_iadd (am_dec tmX12_plans_1 31 rfl) ?_
        obtain ⟨D45, g46, hf⟩ := am_bd hf
        refine am_iast2 hE (am_dec tmX12_plans_1 32 rfl) sh_204 g46 ?_
        refine am_iload_n (am_dec tmX12_plans_1 33 rfl) rfl rfl ?_
        refine am_iload (am_dec tmX12_plans_1 34 rfl) rfl ?_
        refine am_isub (am_dec tmX12_plans_1 35 rfl) ?_
        refine am_istore_n (lv' := [(0, .ref 117), (2, .int (v2 - x42)), (3, .int q3), (4, .int v4), (5, .int x42)]) (am_dec tmX12_plans_1 36 rfl) rfl (by decide) rfl ?_
        have hf := Option.some.inj hf
        subst hf
        exact am_pick [0, 1, 2, 3] rfl key28
      · rw [if_neg c27] at hf
        refine am_goto (tgt := 153) (am_dec tmX12_plans_0 59 rfl) (by decide) ?_
        have hf := Option.some.inj hf
        subst hf
        exact am_pick [0, 1, 2, 3] rfl key28
set_option maxRecDepth 100000 in
set_option maxHeartbeats 4000000 in
theorem l_X12_plans_L62 {E : am_E} (hE : am_EH E) {d mc ms : Nat} {o : am_O} {G2 : am_G} {D2 : am_D} (hdp : 2 ≤ d)   : ∀ (n : Nat) (v2 : Int32) (v3 : Int32) (D : am_D) (ex0 : Int32 × am_D), f_X12_plans_L62  n v2 v3 D = some ex0 → (∀ ex : Int32 × am_D, ex0 = ex → am_S E mX12_plans d mc ms o G2 D2 0 0 165 [(2, .int ex.1)] [] am_G0 ex.2) → am_S E mX12_plans d mc ms o G2 D2 0 0 62 [(0, .ref 117), (2, .int v2), (3, .int v3)] [] am_G0 D
  | 0, _, _, _, _, hf, _ => by
    unfold f_X12_plans_L62 at hf
    cases hf
  | n + 1, v2, v3, D, ex0, hf, hk0 => by
    unfold f_X12_plans_L62 at hf
    refine am_iload_n (am_dec tmX12_plans_0 42 rfl) rfl rfl ?_
    refine am_bipush (v := (100 : Int32)) (am_dec tmX12_plans_0 43 rfl) (by decide) ?_
    refine am_icmp_ge (tgt := 165) (am_dec tmX12_plans_0 44 rfl) (by decide) (fun c21 => ?_) (fun c21 => ?_)
    · rw [if_pos c21] at hf
      have hf := Option.some.inj hf
      subst hf
      exact am_pick [1] rfl (hk0 _ rfl)
    · rw [if_neg c21] at hf
      refine am_iconst (v := (0 : Int32)) (am_dec tmX12_plans_0 45 rfl) (by decide) ?_
      refine am_istore (lv' := [(0, .ref 117), (2, .int v2), (3, .int v3), (4, .int (0 : Int32))]) (am_dec tmX12_plans_0 46 rfl) (by decide) rfl ?_
      obtain ⟨e49, g50, hf⟩ := am_bd hf
      refine am_pick [0, 1, 2, 3] rfl (l_X12_plans_L71 hE hdp am_fu _ _ _ _ g50 (fun ex he => ?_))
      subst he
      refine am_iinc (v := (1 : Int32)) (lv' := [(0, .ref 117), (2, .int e49.1), (3, .int (v3 + (1 : Int32)))]) (am_dec tmX12_plans_1 39 rfl) rfl (by decide) (by decide) rfl ?_
      refine am_goto (tgt := 62) (am_dec tmX12_plans_1 40 rfl) (by decide) ?_
      exact am_pick [0, 1, 2] rfl (l_X12_plans_L62 hE hdp n e49.1 (v3 + (1 : Int32)) e49.2 ex0 hf hk0)
set_option maxRecDepth 100000 in
set_option maxHeartbeats 4000000 in
theorem c_X12_plans {E : am_E} (hE : am_EH E) {p1 : Int32} {D : am_D} {r : (Int32 × am_D)}  (hf : f_X12_plans p1 D = some r) : am_C E mX12_plans 2 0 0 [.ref 117, .int p1] am_G0 D (.inl (some (.int r.1))) am_G0 r.2 := by
  refine am_C_of (by decide +kernel) (Nat.le_of_ble_eq_true rfl) ?_
  change am_S E mX12_plans 2 0 0 (.inl (some (.int r.1))) am_G0 r.2 0 0 0 [(0, .ref 117), (1, .int p1)] [] am_G0 D
  unfold f_X12_plans at hf
  refine am_iload_n (am_dec tmX12_plans_0 0 rfl) rfl rfl ?_
  refine am_istore_n (lv' := [(0, .ref 117), (1, .int p1), (2, .int p1)]) (am_dec tmX12_plans_0 1 rfl) rfl (by decide) rfl ?_
  refine am_iconst (v := (0 : Int32)) (am_dec tmX12_plans_0 2 rfl) (by decide) ?_
  refine am_istore_n (lv' := [(0, .ref 117), (1, .int p1), (2, .int p1), (3, .int (0 : Int32))]) (am_dec tmX12_plans_0 3 rfl) rfl (by decide) rfl ?_
  obtain ⟨e20, g54, hf⟩ := am_bd hf
  refine am_pick [0, 2, 3] rfl (l_X12_plans_L4 hE (Nat.le_refl _) am_fu _ _ _ _ g54 (fun ex he => ?_))
  subst he
  refine am_iconst (v := (0 : Int32)) (am_dec tmX12_plans_0 40 rfl) (by decide) ?_
  refine am_istore_n (lv' := [(0, .ref 117), (2, .int e20.1), (3, .int (0 : Int32))]) (am_dec tmX12_plans_0 41 rfl) rfl (by decide) rfl ?_
  obtain ⟨e51, g53, hf⟩ := am_bd hf
  refine am_pick [0, 1, 2] rfl (l_X12_plans_L62 hE (Nat.le_refl _) am_fu _ _ _ _ g53 (fun ex he => ?_))
  subst he
  refine am_iload_n (am_dec tmX12_plans_1 41 rfl) rfl rfl ?_
  refine am_if_ne (tgt := 173) (am_dec tmX12_plans_1 42 rfl) (by decide) (fun c52 => ?_) (fun c52 => ?_)
  · rw [if_neg c52] at hf
    refine am_iconst (v := (0 : Int32)) (am_dec tmX12_plans_1 45 rfl) (by decide) ?_
    have hf := Option.some.inj hf
    subst hf
    exact am_zret (am_dec tmX12_plans_1 46 rfl) rfl am_z0 (Nat.zero_le _) (Nat.zero_le _)
  · rw [if_pos c52] at hf
    refine am_iconst (v := (1 : Int32)) (am_dec tmX12_plans_1 43 rfl) (by decide) ?_
    refine am_goto (tgt := 174) (am_dec tmX12_plans_1 44 rfl) (by decide) ?_
    have hf := Option.some.inj hf
    subst hf
    exact am_zret (am_dec tmX12_plans_1 46 rfl) rfl am_z1 (Nat.zero_le _) (Nat.zero_le _)
theorem z_X12_plans {p1 : Int32} {D : am_D} {r : (Int32 × am_D)} (hf : f_X12_plans p1 D = some r) : narrow .boolean (.int r.1) = .int r.1 := by
  unfold f_X12_plans at hf
  obtain ⟨e20, g54, hf⟩ := am_bd hf
  obtain ⟨e51, g53, hf⟩ := am_bd hf
  by_cases c52 : e51.1 = 0
  · rw [if_pos c52] at hf
    have hf := Option.some.inj hf
    subst hf
    exact am_z1
  · rw [if_neg c52] at hf
    have hf := Option.some.inj hf
    subst hf
    exact am_z0
def f_X12_planned_L74  (D : am_D) : Nat → Int32 → Int32 → Option (Int32)
  | 0, _, _ => none
  | n + 1, v3, v4 =>
    if (D.1 117 21) ≤ v4 then
    some (v3)
    else
    (am_gA 10 v4).bind fun j19 =>
    (am_gI D (211 + j19) 4 (1 : Int32)).bind fun x21 =>
    (am_gI D 204 10 v4).bind fun x23 =>
    (am_gA 10 v4).bind fun j25 =>
    (am_gI D (211 + j25) 4 (0 : Int32)).bind fun x27 =>
    (f_X12_amount (x23 - x27)).bind fun x30 =>
    f_X12_planned_L74 D n (v3 + (x21 * x30)) (v4 + (1 : Int32))
def f_X12_planned (p1 : Int32) (p2 : Int32) (D : am_D) : Option ((Int32 × am_D)) :=
    (some (am_wI D 117 0 (0 : Int32))).bind fun D1 =>
    (f_X12_in p1 (0 : Int32) (12000 : Int32)).bind fun x4 =>
    (if x4 = 0 then
    some ((1 : Int32))
    else
    some ((0 : Int32))).bind fun w7 =>
    (f_X12_bad w7 (1 : Int32) D1).bind fun x9 =>
    if x9.1 = 0 then
    (f_X12_plans p1 x9.2).bind fun x12 =>
    if x12.1 = 0 then
    some ((-5000 : Int32), x12.2)
    else
    (f_X12_in p2 (-1 : Int32) ((x12.2.1 117 21) - (1 : Int32))).bind fun x15 =>
    if x15 = 0 then
    some ((-5000 : Int32), x12.2)
    else
    if p2 = (-1 : Int32) then
    (f_X12_planned_L74 x12.2 am_fu (0 : Int32) (0 : Int32)).bind fun e31 =>
    some (e31, x12.2)
    else
    (am_gI x12.2 204 10 p2).bind fun x33 =>
    some (x33, x12.2)
    else
    some ((0 : Int32), x9.2)
set_option maxRecDepth 100000 in
set_option maxHeartbeats 4000000 in
theorem l_X12_planned_L74 {E : am_E} (hE : am_EH E) {d mc ms : Nat} {o : am_O} {G2 : am_G} {D2 : am_D} (hdp : 3 ≤ d)  {D : am_D}  : ∀ (n : Nat) (v3 : Int32) (v4 : Int32) (ex0 : Int32), f_X12_planned_L74  D n v3 v4 = some ex0 → (∀ ex : Int32, ex0 = ex → am_S E mX12_planned d mc ms o G2 D2 0 0 122 [(3, .int ex)] [] am_G0 D) → am_S E mX12_planned d mc ms o G2 D2 0 0 74 [(0, .ref 117), (3, .int v3), (4, .int v4)] [] am_G0 D
  | 0, _, _, _, hf, _ => by
    unfold f_X12_planned_L74 at hf
    cases hf
  | n + 1, v3, v4, ex0, hf, hk0 => by
    unfold f_X12_planned_L74 at hf
    refine am_iload (am_dec tmX12_planned_0 43 rfl) rfl ?_
    refine am_aload_n (am_dec tmX12_planned_0 44 rfl) rfl rfl ?_
    refine am_getI (j := 21) hE (am_dec tmX12_planned_0 45 rfl) sh_117 cf12 (by decide) rfl lf_X12_342 ?_
    refine am_icmp_ge (tgt := 122) (am_dec tmX12_planned_0 46 rfl) (by decide) (fun c18 => ?_) (fun c18 => ?_)
    · rw [if_pos c18] at hf
      have hf := Option.some.inj hf
      subst hf
      exact am_pick [1] rfl (hk0 _ rfl)
    · rw [if_neg c18] at hf
      refine am_iload_n (am_dec tmX12_planned_0 47 rfl) rfl rfl ?_
      refine am_aload_n (am_dec tmX12_planned_0 48 rfl) rfl rfl ?_
      refine am_getR (j := 32) hE (am_dec tmX12_planned_0 49 rfl) sh_117 cf12 (by decide) rfl lf_X12_67 rf_117_32 ?_
      refine am_iload (am_dec tmX12_planned_0 50 rfl) rfl ?_
      obtain ⟨j19, g20, hf⟩ := am_bd hf
      have hj_j19 := (am_gA_lt g20).1
      refine am_aald2 (t := 6) hE (am_dec tmX12_planned_0 51 rfl) sh_210 (by decide) rfl rfl g20 (rr_210 hj_j19) ?_
      refine am_iconst (v := (1 : Int32)) (am_dec tmX12_planned_0 52 rfl) (by decide) ?_
      obtain ⟨x21, g22, hf⟩ := am_bd hf
      refine am_iald2 hE (am_dec tmX12_planned_0 53 rfl) (sa_210_0 hj_j19) g22 ?_
      refine am_aload_n (am_dec tmX12_planned_0 54 rfl) rfl rfl ?_
      refine am_getR (j := 30) hE (am_dec tmX12_planned_0 55 rfl) sh_117 cf12 (by decide) rfl lf_X12_61 rf_117_30 ?_
      refine am_iload (am_dec tmX12_planned_0 56 rfl) rfl ?_
      obtain ⟨x23, g24, hf⟩ := am_bd hf
      refine am_iald2 hE (am_dec tmX12_planned_0 57 rfl) sh_204 g24 ?_
      refine am_aload_n (am_dec tmX12_planned_0 58 rfl) rfl rfl ?_
      refine am_getR (j := 32) hE (am_dec tmX12_planned_0 59 rfl) sh_117 cf12 (by decide) rfl lf_X12_67 rf_117_32 ?_
      refine am_iload (am_dec tmX12_planned_1 0 rfl) rfl ?_
      obtain ⟨j25, g26, hf⟩ := am_bd hf
      have hj_j25 := (am_gA_lt g26).1
      refine am_aald2 (t := 6) hE (am_dec tmX12_planned_1 1 rfl) sh_210 (by decide) rfl rfl g26 (rr_210 hj_j25) ?_
      refine am_iconst (v := (0 : Int32)) (am_dec tmX12_planned_1 2 rfl) (by decide) ?_
      obtain ⟨x27, g28, hf⟩ := am_bd hf
      refine am_iald2 hE (am_dec tmX12_planned_1 3 rfl) (sa_210_0 hj_j25) g28 ?_
      refine am_isub (am_dec tmX12_planned_1 4 rfl) ?_
      obtain ⟨x30, g29, hf⟩ := am_bd hf
      refine am_callS1 (As := [.int (x23 - x27)]) (st := [.int x21, .int v3]) (am_dec tmX12_planned_1 5 rfl) ok_X12_amount rfl lm_X12_281 st_X12_amount (c_X12_amount hE g29) rfl (Nat.lt_of_lt_of_le (by decide) hdp) (Nat.le_of_ble_eq_true rfl) (Nat.zero_le _) (Nat.zero_le _) rfl ?_
      refine am_imul (am_dec tmX12_planned_1 6 rfl) ?_
      refine am_iadd (am_dec tmX12_planned_1 7 rfl) ?_
      refine am_istore_n (lv' := [(0, .ref 117), (3, .int (v3 + (x21 * x30))), (4, .int v4)]) (am_dec tmX12_planned_1 8 rfl) rfl (by decide) rfl ?_
      refine am_iinc (v := (1 : Int32)) (lv' := [(0, .ref 117), (3, .int (v3 + (x21 * x30))), (4, .int (v4 + (1 : Int32)))]) (am_dec tmX12_planned_1 9 rfl) rfl (by decide) (by decide) rfl ?_
      refine am_goto (tgt := 74) (am_dec tmX12_planned_1 10 rfl) (by decide) ?_
      exact am_pick [0, 1, 2] rfl (l_X12_planned_L74 hE hdp n (v3 + (x21 * x30)) (v4 + (1 : Int32)) ex0 hf hk0)
set_option maxRecDepth 100000 in
set_option maxHeartbeats 4000000 in
theorem c_X12_planned {E : am_E} (hE : am_EH E) {p1 : Int32} {p2 : Int32} {D : am_D} {r : (Int32 × am_D)}  (hf : f_X12_planned p1 p2 D = some r) : am_C E mX12_planned 3 0 0 [.ref 117, .int p1, .int p2] am_G0 D (.inl (some (.int r.1))) am_G0 r.2 := by
  refine am_C_of (by decide +kernel) (Nat.le_of_ble_eq_true rfl) ?_
  change am_S E mX12_planned 3 0 0 (.inl (some (.int r.1))) am_G0 r.2 0 0 0 [(0, .ref 117), (1, .int p1), (2, .int p2)] [] am_G0 D
  unfold f_X12_planned at hf
  refine am_aload_n (am_dec tmX12_planned_0 0 rfl) rfl rfl ?_
  refine am_iconst (v := (0 : Int32)) (am_dec tmX12_planned_0 1 rfl) (by decide) ?_
  obtain ⟨D1, g2, hf⟩ := am_bd hf
  refine am_putI2 (j := 0) hE (am_dec tmX12_planned_0 2 rfl) sh_117 cf12 (by decide) rfl lf_X12_110 rfl rfl rfl g2 ?_
  refine am_aload_n (am_dec tmX12_planned_0 3 rfl) rfl rfl ?_
  refine am_iload_n (am_dec tmX12_planned_0 4 rfl) rfl rfl ?_
  refine am_iconst (v := (0 : Int32)) (am_dec tmX12_planned_0 5 rfl) (by decide) ?_
  refine am_sipush (v := (12000 : Int32)) (am_dec tmX12_planned_0 6 rfl) (by decide) ?_
  obtain ⟨x4, g3, hf⟩ := am_bd hf
  refine am_callS1 (As := [.int p1, .int (0 : Int32), .int (12000 : Int32)]) (st := [.ref 117]) (am_dec tmX12_planned_0 7 rfl) ok_X12_in rfl lm_X12_144 st_X12_in (c_X12_in hE g3) rfl (by decide) (Nat.le_of_ble_eq_true rfl) (Nat.zero_le _) (Nat.zero_le _) rfl ?_
  obtain ⟨w7, g35, hf⟩ := am_bd hf
  have key6 : am_S E mX12_planned 3 0 0 (.inl (some (.int r.1))) am_G0 r.2 0 0 22 [(0, .ref 117), (1, .int p1), (2, .int p2)] [.int w7, .ref 117] am_G0 D1 := by
    refine am_iconst (v := (1 : Int32)) (am_dec tmX12_planned_0 12 rfl) (by decide) ?_
    obtain ⟨x9, g8, hf⟩ := am_bd hf
    refine am_callV1 (As := [.int w7, .int (1 : Int32)]) (st := []) hE (am_dec tmX12_planned_0 13 rfl) ok_X12_bad rfl lm_X12_191 in_X12_bad se_X12_bad sh_117 cf12 (c_X12_bad hE g8) rfl (by decide) (Nat.le_of_ble_eq_true rfl) (Nat.zero_le _) (Nat.zero_le _) rfl ?_
    refine am_if_eq (tgt := 31) (am_dec tmX12_planned_0 14 rfl) (by decide) (fun c10 => ?_) (fun c10 => ?_)
    · rw [if_pos c10] at hf
      refine am_aload_n (am_dec tmX12_planned_0 17 rfl) rfl rfl ?_
      refine am_iload_n (am_dec tmX12_planned_0 18 rfl) rfl rfl ?_
      obtain ⟨x12, g11, hf⟩ := am_bd hf
      refine am_callV1 (As := [.int p1]) (st := []) hE (am_dec tmX12_planned_0 19 rfl) ok_X12_plans rfl lm_X12_345 in_X12_plans se_X12_plans sh_117 cf12 (c_X12_plans hE g11) rfl (by decide) (Nat.le_of_ble_eq_true rfl) (Nat.zero_le _) (Nat.zero_le _) rfl ?_
      refine am_if_eq (tgt := 53) (am_dec tmX12_planned_0 20 rfl) (by decide) (fun c13 => ?_) (fun c13 => ?_)
      · rw [if_pos c13] at hf
        refine am_sipush (v := (-5000 : Int32)) (am_dec tmX12_planned_0 29 rfl) (by decide) ?_
        have hf := Option.some.inj hf
        subst hf
        exact am_iret (am_dec tmX12_planned_0 30 rfl) rfl (Nat.zero_le _) (Nat.zero_le _)
      · rw [if_neg c13] at hf
        refine am_iload_n (am_dec tmX12_planned_0 21 rfl) rfl rfl ?_
        refine am_iconst (v := (-1 : Int32)) (am_dec tmX12_planned_0 22 rfl) (by decide) ?_
        refine am_aload_n (am_dec tmX12_planned_0 23 rfl) rfl rfl ?_
        refine am_getI (j := 21) hE (am_dec tmX12_planned_0 24 rfl) sh_117 cf12 (by decide) rfl lf_X12_342 ?_
        refine am_iconst (v := (1 : Int32)) (am_dec tmX12_planned_0 25 rfl) (by decide) ?_
        refine am_isub (am_dec tmX12_planned_0 26 rfl) ?_
        obtain ⟨x15, g14, hf⟩ := am_bd hf
        refine am_callS1 (As := [.int p2, .int (-1 : Int32), .int ((x12.2.1 117 21) - (1 : Int32))]) (st := []) (am_dec tmX12_planned_0 27 rfl) ok_X12_in rfl lm_X12_144 st_X12_in (c_X12_in hE g14) rfl (by decide) (Nat.le_of_ble_eq_true rfl) (Nat.zero_le _) (Nat.zero_le _) rfl ?_
        refine am_if_ne (tgt := 57) (am_dec tmX12_planned_0 28 rfl) (by decide) (fun c16 => ?_) (fun c16 => ?_)
        · rw [if_neg c16] at hf
          refine am_iload_n (am_dec tmX12_planned_0 31 rfl) rfl rfl ?_
          refine am_iconst (v := (-1 : Int32)) (am_dec tmX12_planned_0 32 rfl) (by decide) ?_
          refine am_icmp_eq (tgt := 69) (am_dec tmX12_planned_0 33 rfl) (by decide) (fun c17 => ?_) (fun c17 => ?_)
          · rw [if_pos c17] at hf
            refine am_iconst (v := (0 : Int32)) (am_dec tmX12_planned_0 39 rfl) (by decide) ?_
            refine am_istore_n (lv' := [(0, .ref 117), (1, .int p1), (2, .int p2), (3, .int (0 : Int32))]) (am_dec tmX12_planned_0 40 rfl) rfl (by decide) rfl ?_
            refine am_iconst (v := (0 : Int32)) (am_dec tmX12_planned_0 41 rfl) (by decide) ?_
            refine am_istore (lv' := [(0, .ref 117), (1, .int p1), (2, .int p2), (3, .int (0 : Int32)), (4, .int (0 : Int32))]) (am_dec tmX12_planned_0 42 rfl) (by decide) rfl ?_
            obtain ⟨e31, g32, hf⟩ := am_bd hf
            refine am_pick [0, 3, 4] rfl (l_X12_planned_L74 hE (Nat.le_refl _) am_fu _ _ _ g32 (fun ex he => ?_))
            subst he
            refine am_iload_n (am_dec tmX12_planned_1 11 rfl) rfl rfl ?_
            have hf := Option.some.inj hf
            subst hf
            exact am_iret (am_dec tmX12_planned_1 12 rfl) rfl (Nat.zero_le _) (Nat.zero_le _)
          · rw [if_neg c17] at hf
            refine am_aload_n (am_dec tmX12_planned_0 34 rfl) rfl rfl ?_
            refine am_getR (j := 30) hE (am_dec tmX12_planned_0 35 rfl) sh_117 cf12 (by decide) rfl lf_X12_61 rf_117_30 ?_
            refine am_iload_n (am_dec tmX12_planned_0 36 rfl) rfl rfl ?_
            obtain ⟨x33, g34, hf⟩ := am_bd hf
            refine am_iald2 hE (am_dec tmX12_planned_0 37 rfl) sh_204 g34 ?_
            have hf := Option.some.inj hf
            subst hf
            exact am_iret (am_dec tmX12_planned_0 38 rfl) rfl (Nat.zero_le _) (Nat.zero_le _)
        · rw [if_pos c16] at hf
          refine am_sipush (v := (-5000 : Int32)) (am_dec tmX12_planned_0 29 rfl) (by decide) ?_
          have hf := Option.some.inj hf
          subst hf
          exact am_iret (am_dec tmX12_planned_0 30 rfl) rfl (Nat.zero_le _) (Nat.zero_le _)
    · rw [if_neg c10] at hf
      refine am_iconst (v := (0 : Int32)) (am_dec tmX12_planned_0 15 rfl) (by decide) ?_
      have hf := Option.some.inj hf
      subst hf
      exact am_iret (am_dec tmX12_planned_0 16 rfl) rfl (Nat.zero_le _) (Nat.zero_le _)
  replace hf := g35
  refine am_if_ne (tgt := 21) (am_dec tmX12_planned_0 8 rfl) (by decide) (fun c5 => ?_) (fun c5 => ?_)
  · rw [if_neg c5] at hf
    refine am_iconst (v := (0 : Int32)) (am_dec tmX12_planned_0 11 rfl) (by decide) ?_
    have hf := Option.some.inj hf
    subst hf
    exact am_pick [0, 1, 2] rfl key6
  · rw [if_pos c5] at hf
    refine am_iconst (v := (1 : Int32)) (am_dec tmX12_planned_0 9 rfl) (by decide) ?_
    refine am_goto (tgt := 22) (am_dec tmX12_planned_0 10 rfl) (by decide) ?_
    have hf := Option.some.inj hf
    subst hf
    exact am_pick [0, 1, 2] rfl key6
def f_X12_planMap_L62  : Nat → Int32 → Int32 → Int32 → Int32 → am_D → Option (Int32 × Int32 × Int32 × am_D)
  | 0, _, _, _, _, _ => none
  | n + 1, v2, v3, v4, v5, D =>
    if (D.1 117 21) ≤ v5 then
    some (v2, v3, v4, D)
    else
    (am_gA 10 v5).bind fun j16 =>
    (am_gI D (211 + j16) 4 (0 : Int32)).bind fun x18 =>
    (am_gI D 204 10 v5).bind fun x20 =>
    (am_gI D 204 10 v5).bind fun x22 =>
    (if x22 = 0 then
    some (v4, D)
    else
    (am_gA 12 v4).bind fun j26 =>
    (am_pI D (121 + j26) 2 (0 : Int32) (v2 + x18)).bind fun D28 =>
    (am_gA 12 v4).bind fun j30 =>
    (am_pI D28 (121 + j30) 2 (1 : Int32) (v3 + x20)).bind fun D32 =>
    some ((v4 + (1 : Int32)), D32)).bind fun w34 =>
    f_X12_planMap_L62 n (v2 + x18) (v3 + x20) w34.1 (v5 + (1 : Int32)) w34.2
def f_X12_planMap (p1 : Int32) (D : am_D) : Option ((Int32 × am_D)) :=
    (some (am_wI D 117 0 (0 : Int32))).bind fun D1 =>
    (f_X12_in p1 (0 : Int32) (12000 : Int32)).bind fun x4 =>
    (if x4 = 0 then
    some ((1 : Int32))
    else
    some ((0 : Int32))).bind fun w7 =>
    (f_X12_bad w7 (1 : Int32) D1).bind fun x9 =>
    if x9.1 = 0 then
    if (x9.2.1 117 13) = (5 : Int32) then
    some ((-1 : Int32), x9.2)
    else
    (f_X12_plans p1 x9.2).bind fun x13 =>
    if x13.1 = 0 then
    some ((-2 : Int32), x13.2)
    else
    (f_X12_planMap_L62 am_fu (0 : Int32) (0 : Int32) (0 : Int32) (0 : Int32) x13.2).bind fun e36 =>
    (if e36.2.2.1 ≤ 0 then
    some (e36.2.2.2)
    else
    (am_gA 12 (e36.2.2.1 - (1 : Int32))).bind fun j39 =>
    (am_pI e36.2.2.2 (121 + j39) 2 (0 : Int32) e36.1).bind fun D41 =>
    some (D41)).bind fun w43 =>
    if e36.2.2.1 = 0 then
    some ((-2 : Int32), w43)
    else
    if (600 : Int32) < e36.1 then
    some ((-2 : Int32), w43)
    else
    if e36.2.1 ≤ (1200 : Int32) then
    (f_X12_keepsMap e36.2.2.1 w43).bind fun x48 =>
    some (x48.1, x48.2)
    else
    some ((-2 : Int32), w43)
    else
    some ((0 : Int32), x9.2)
set_option maxRecDepth 100000 in
set_option maxHeartbeats 4000000 in
theorem l_X12_planMap_L62 {E : am_E} (hE : am_EH E) {d mc ms : Nat} {o : am_O} {G2 : am_G} {D2 : am_D} (hdp : 3 ≤ d)   : ∀ (n : Nat) (v2 : Int32) (v3 : Int32) (v4 : Int32) (v5 : Int32) (D : am_D) (ex0 : Int32 × Int32 × Int32 × am_D), f_X12_planMap_L62  n v2 v3 v4 v5 D = some ex0 → (∀ ex : Int32 × Int32 × Int32 × am_D, ex0 = ex → am_S E mX12_planMap d mc ms o G2 D2 0 0 135 [(0, .ref 117), (2, .int ex.1), (3, .int ex.2.1), (4, .int ex.2.2.1)] [] am_G0 ex.2.2.2) → am_S E mX12_planMap d mc ms o G2 D2 0 0 62 [(0, .ref 117), (2, .int v2), (3, .int v3), (4, .int v4), (5, .int v5)] [] am_G0 D
  | 0, _, _, _, _, _, _, hf, _ => by
    unfold f_X12_planMap_L62 at hf
    cases hf
  | n + 1, v2, v3, v4, v5, D, ex0, hf, hk0 => by
    unfold f_X12_planMap_L62 at hf
    refine am_iload (am_dec tmX12_planMap_0 37 rfl) rfl ?_
    refine am_aload_n (am_dec tmX12_planMap_0 38 rfl) rfl rfl ?_
    refine am_getI (j := 21) hE (am_dec tmX12_planMap_0 39 rfl) sh_117 cf12 (by decide) rfl lf_X12_342 ?_
    refine am_icmp_ge (tgt := 135) (am_dec tmX12_planMap_0 40 rfl) (by decide) (fun c15 => ?_) (fun c15 => ?_)
    · rw [if_pos c15] at hf
      have hf := Option.some.inj hf
      subst hf
      exact am_pick [0, 1, 2, 3] rfl (hk0 _ rfl)
    · rw [if_neg c15] at hf
      refine am_iload_n (am_dec tmX12_planMap_0 41 rfl) rfl rfl ?_
      refine am_aload_n (am_dec tmX12_planMap_0 42 rfl) rfl rfl ?_
      refine am_getR (j := 32) hE (am_dec tmX12_planMap_0 43 rfl) sh_117 cf12 (by decide) rfl lf_X12_67 rf_117_32 ?_
      refine am_iload (am_dec tmX12_planMap_0 44 rfl) rfl ?_
      obtain ⟨j16, g17, hf⟩ := am_bd hf
      have hj_j16 := (am_gA_lt g17).1
      refine am_aald2 (t := 6) hE (am_dec tmX12_planMap_0 45 rfl) sh_210 (by decide) rfl rfl g17 (rr_210 hj_j16) ?_
      refine am_iconst (v := (0 : Int32)) (am_dec tmX12_planMap_0 46 rfl) (by decide) ?_
      obtain ⟨x18, g19, hf⟩ := am_bd hf
      refine am_iald2 hE (am_dec tmX12_planMap_0 47 rfl) (sa_210_0 hj_j16) g19 ?_
      refine am_iadd (am_dec tmX12_planMap_0 48 rfl) ?_
      refine am_istore_n (lv' := [(0, .ref 117), (2, .int (v2 + x18)), (3, .int v3), (4, .int v4), (5, .int v5)]) (am_dec tmX12_planMap_0 49 rfl) rfl (by decide) rfl ?_
      refine am_iload_n (am_dec tmX12_planMap_0 50 rfl) rfl rfl ?_
      refine am_aload_n (am_dec tmX12_planMap_0 51 rfl) rfl rfl ?_
      refine am_getR (j := 30) hE (am_dec tmX12_planMap_0 52 rfl) sh_117 cf12 (by decide) rfl lf_X12_61 rf_117_30 ?_
      refine am_iload (am_dec tmX12_planMap_0 53 rfl) rfl ?_
      obtain ⟨x20, g21, hf⟩ := am_bd hf
      refine am_iald2 hE (am_dec tmX12_planMap_0 54 rfl) sh_204 g21 ?_
      refine am_iadd (am_dec tmX12_planMap_0 55 rfl) ?_
      refine am_istore_n (lv' := [(0, .ref 117), (2, .int (v2 + x18)), (3, .int (v3 + x20)), (4, .int v4), (5, .int v5)]) (am_dec tmX12_planMap_0 56 rfl) rfl (by decide) rfl ?_
      refine am_aload_n (am_dec tmX12_planMap_0 57 rfl) rfl rfl ?_
      refine am_getR (j := 30) hE (am_dec tmX12_planMap_0 58 rfl) sh_117 cf12 (by decide) rfl lf_X12_61 rf_117_30 ?_
      refine am_iload (am_dec tmX12_planMap_0 59 rfl) rfl ?_
      obtain ⟨x22, g23, hf⟩ := am_bd hf
      refine am_iald2 hE (am_dec tmX12_planMap_1 0 rfl) sh_204 g23 ?_
      obtain ⟨w34, g35, hf⟩ := am_bd hf
      have key25 : am_S E mX12_planMap d mc ms o G2 D2 0 0 129 [(0, .ref 117), (2, .int (v2 + x18)), (3, .int (v3 + x20)), (4, .int w34.1), (5, .int v5)] [] am_G0 w34.2 := by
        refine am_iinc (v := (1 : Int32)) (lv' := [(0, .ref 117), (2, .int (v2 + x18)), (3, .int (v3 + x20)), (4, .int w34.1), (5, .int (v5 + (1 : Int32)))]) (am_dec tmX12_planMap_1 18 rfl) rfl (by decide) (by decide) rfl ?_
        refine am_goto (tgt := 62) (am_dec tmX12_planMap_1 19 rfl) (by decide) ?_
        exact am_pick [0, 1, 2, 3, 4] rfl (l_X12_planMap_L62 hE hdp n (v2 + x18) (v3 + x20) w34.1 (v5 + (1 : Int32)) w34.2 ex0 hf hk0)
      replace hf := g35
      refine am_if_ne (tgt := 106) (am_dec tmX12_planMap_1 1 rfl) (by decide) (fun c24 => ?_) (fun c24 => ?_)
      · rw [if_neg c24] at hf
        refine am_aload_n (am_dec tmX12_planMap_1 3 rfl) rfl rfl ?_
        refine am_getR (j := 11) hE (am_dec tmX12_planMap_1 4 rfl) sh_117 cf12 (by decide) rfl lf_X12_22 rf_117_11 ?_
        refine am_iload (am_dec tmX12_planMap_1 5 rfl) rfl ?_
        obtain ⟨j26, g27, hf⟩ := am_bd hf
        have hj_j26 := (am_gA_lt g27).1
        refine am_aald2 (t := 6) hE (am_dec tmX12_planMap_1 6 rfl) sh_120 (by decide) rfl rfl g27 (rr_120 hj_j26) ?_
        refine am_iconst (v := (0 : Int32)) (am_dec tmX12_planMap_1 7 rfl) (by decide) ?_
        refine am_iload_n (am_dec tmX12_planMap_1 8 rfl) rfl rfl ?_
        obtain ⟨D28, g29, hf⟩ := am_bd hf
        refine am_iast2 hE (am_dec tmX12_planMap_1 9 rfl) (sa_120_0 hj_j26) g29 ?_
        refine am_aload_n (am_dec tmX12_planMap_1 10 rfl) rfl rfl ?_
        refine am_getR (j := 11) hE (am_dec tmX12_planMap_1 11 rfl) sh_117 cf12 (by decide) rfl lf_X12_22 rf_117_11 ?_
        refine am_iload (am_dec tmX12_planMap_1 12 rfl) rfl ?_
        obtain ⟨j30, g31, hf⟩ := am_bd hf
        have hj_j30 := (am_gA_lt g31).1
        refine am_aald2 (t := 6) hE (am_dec tmX12_planMap_1 13 rfl) sh_120 (by decide) rfl rfl g31 (rr_120 hj_j30) ?_
        refine am_iconst (v := (1 : Int32)) (am_dec tmX12_planMap_1 14 rfl) (by decide) ?_
        refine am_iload_n (am_dec tmX12_planMap_1 15 rfl) rfl rfl ?_
        obtain ⟨D32, g33, hf⟩ := am_bd hf
        refine am_iast2 hE (am_dec tmX12_planMap_1 16 rfl) (sa_120_0 hj_j30) g33 ?_
        refine am_iinc (v := (1 : Int32)) (lv' := [(0, .ref 117), (2, .int (v2 + x18)), (3, .int (v3 + x20)), (4, .int (v4 + (1 : Int32))), (5, .int v5)]) (am_dec tmX12_planMap_1 17 rfl) rfl (by decide) (by decide) rfl ?_
        have hf := Option.some.inj hf
        subst hf
        exact am_pick [0, 1, 2, 3, 4] rfl key25
      · rw [if_pos c24] at hf
        refine am_goto (tgt := 129) (am_dec tmX12_planMap_1 2 rfl) (by decide) ?_
        have hf := Option.some.inj hf
        subst hf
        exact am_pick [0, 1, 2, 3, 4] rfl key25
set_option maxRecDepth 100000 in
set_option maxHeartbeats 4000000 in
theorem c_X12_planMap {E : am_E} (hE : am_EH E) {p1 : Int32} {D : am_D} {r : (Int32 × am_D)}  (hf : f_X12_planMap p1 D = some r) : am_C E mX12_planMap 3 0 0 [.ref 117, .int p1] am_G0 D (.inl (some (.int r.1))) am_G0 r.2 := by
  refine am_C_of (by decide +kernel) (Nat.le_of_ble_eq_true rfl) ?_
  change am_S E mX12_planMap 3 0 0 (.inl (some (.int r.1))) am_G0 r.2 0 0 0 [(0, .ref 117), (1, .int p1)] [] am_G0 D
  unfold f_X12_planMap at hf
  refine am_aload_n (am_dec tmX12_planMap_0 0 rfl) rfl rfl ?_
  refine am_iconst (v := (0 : Int32)) (am_dec tmX12_planMap_0 1 rfl) (by decide) ?_
  obtain ⟨D1, g2, hf⟩ := am_bd hf
  refine am_putI2 (j := 0) hE (am_dec tmX12_planMap_0 2 rfl) sh_117 cf12 (by decide) rfl lf_X12_110 rfl rfl rfl g2 ?_
  refine am_aload_n (am_dec tmX12_planMap_0 3 rfl) rfl rfl ?_
  refine am_iload_n (am_dec tmX12_planMap_0 4 rfl) rfl rfl ?_
  refine am_iconst (v := (0 : Int32)) (am_dec tmX12_planMap_0 5 rfl) (by decide) ?_
  refine am_sipush (v := (12000 : Int32)) (am_dec tmX12_planMap_0 6 rfl) (by decide) ?_
  obtain ⟨x4, g3, hf⟩ := am_bd hf
  refine am_callS1 (As := [.int p1, .int (0 : Int32), .int (12000 : Int32)]) (st := [.ref 117]) (am_dec tmX12_planMap_0 7 rfl) ok_X12_in rfl lm_X12_144 st_X12_in (c_X12_in hE g3) rfl (by decide) (Nat.le_of_ble_eq_true rfl) (Nat.zero_le _) (Nat.zero_le _) rfl ?_
  obtain ⟨w7, g51, hf⟩ := am_bd hf
  have key6 : am_S E mX12_planMap 3 0 0 (.inl (some (.int r.1))) am_G0 r.2 0 0 22 [(0, .ref 117), (1, .int p1)] [.int w7, .ref 117] am_G0 D1 := by
    refine am_iconst (v := (1 : Int32)) (am_dec tmX12_planMap_0 12 rfl) (by decide) ?_
    obtain ⟨x9, g8, hf⟩ := am_bd hf
    refine am_callV1 (As := [.int w7, .int (1 : Int32)]) (st := []) hE (am_dec tmX12_planMap_0 13 rfl) ok_X12_bad rfl lm_X12_191 in_X12_bad se_X12_bad sh_117 cf12 (c_X12_bad hE g8) rfl (by decide) (Nat.le_of_ble_eq_true rfl) (Nat.zero_le _) (Nat.zero_le _) rfl ?_
    refine am_if_eq (tgt := 31) (am_dec tmX12_planMap_0 14 rfl) (by decide) (fun c10 => ?_) (fun c10 => ?_)
    · rw [if_pos c10] at hf
      refine am_aload_n (am_dec tmX12_planMap_0 17 rfl) rfl rfl ?_
      refine am_getI (j := 13) hE (am_dec tmX12_planMap_0 18 rfl) sh_117 cf12 (by decide) rfl lf_X12_208 ?_
      refine am_iconst (v := (5 : Int32)) (am_dec tmX12_planMap_0 19 rfl) (by decide) ?_
      refine am_icmp_ne (tgt := 41) (am_dec tmX12_planMap_0 20 rfl) (by decide) (fun c11 => ?_) (fun c11 => ?_)
      · rw [if_neg c11] at hf
        refine am_aload_n (am_dec tmX12_planMap_0 23 rfl) rfl rfl ?_
        refine am_iload_n (am_dec tmX12_planMap_0 24 rfl) rfl rfl ?_
        obtain ⟨x13, g12, hf⟩ := am_bd hf
        refine am_callV1 (As := [.int p1]) (st := []) hE (am_dec tmX12_planMap_0 25 rfl) ok_X12_plans rfl lm_X12_345 in_X12_plans se_X12_plans sh_117 cf12 (c_X12_plans hE g12) rfl (by decide) (Nat.le_of_ble_eq_true rfl) (Nat.zero_le _) (Nat.zero_le _) rfl ?_
        refine am_if_ne (tgt := 52) (am_dec tmX12_planMap_0 26 rfl) (by decide) (fun c14 => ?_) (fun c14 => ?_)
        · rw [if_neg c14] at hf
          refine am_iconst (v := (0 : Int32)) (am_dec tmX12_planMap_0 29 rfl) (by decide) ?_
          refine am_istore_n (lv' := [(0, .ref 117), (1, .int p1), (2, .int (0 : Int32))]) (am_dec tmX12_planMap_0 30 rfl) rfl (by decide) rfl ?_
          refine am_iconst (v := (0 : Int32)) (am_dec tmX12_planMap_0 31 rfl) (by decide) ?_
          refine am_istore_n (lv' := [(0, .ref 117), (1, .int p1), (2, .int (0 : Int32)), (3, .int (0 : Int32))]) (am_dec tmX12_planMap_0 32 rfl) rfl (by decide) rfl ?_
          refine am_iconst (v := (0 : Int32)) (am_dec tmX12_planMap_0 33 rfl) (by decide) ?_
          refine am_istore (lv' := [(0, .ref 117), (1, .int p1), (2, .int (0 : Int32)), (3, .int (0 : Int32)), (4, .int (0 : Int32))]) (am_dec tmX12_planMap_0 34 rfl) (by decide) rfl ?_
          refine am_iconst (v := (0 : Int32)) (am_dec tmX12_planMap_0 35 rfl) (by decide) ?_
          refine am_istore (lv' := [(0, .ref 117), (1, .int p1), (2, .int (0 : Int32)), (3, .int (0 : Int32)), (4, .int (0 : Int32)), (5, .int (0 : Int32))]) (am_dec tmX12_planMap_0 36 rfl) (by decide) rfl ?_
          obtain ⟨e36, g50, hf⟩ := am_bd hf
          refine am_pick [0, 2, 3, 4, 5] rfl (l_X12_planMap_L62 hE (Nat.le_refl _) am_fu _ _ _ _ _ _ g50 (fun ex he => ?_))
          subst he
          refine am_iload (am_dec tmX12_planMap_1 20 rfl) rfl ?_
          obtain ⟨w43, g49, hf⟩ := am_bd hf
          have key38 : am_S E mX12_planMap 3 0 0 (.inl (some (.int r.1))) am_G0 r.2 0 0 152 [(0, .ref 117), (2, .int e36.1), (3, .int e36.2.1), (4, .int e36.2.2.1)] [] am_G0 w43 := by
            refine am_iload (am_dec tmX12_planMap_1 31 rfl) rfl ?_
            refine am_if_eq (tgt := 171) (am_dec tmX12_planMap_1 32 rfl) (by decide) (fun c44 => ?_) (fun c44 => ?_)
            · rw [if_pos c44] at hf
              refine am_bipush (v := (-2 : Int32)) (am_dec tmX12_planMap_1 39 rfl) (by decide) ?_
              refine am_goto (tgt := 182) (am_dec tmX12_planMap_1 40 rfl) (by decide) ?_
              have hf := Option.some.inj hf
              subst hf
              exact am_iret (am_dec tmX12_planMap_1 44 rfl) rfl (Nat.zero_le _) (Nat.zero_le _)
            · rw [if_neg c44] at hf
              refine am_iload_n (am_dec tmX12_planMap_1 33 rfl) rfl rfl ?_
              refine am_sipush (v := (600 : Int32)) (am_dec tmX12_planMap_1 34 rfl) (by decide) ?_
              refine am_icmp_gt (tgt := 171) (am_dec tmX12_planMap_1 35 rfl) (by decide) (fun c45 => ?_) (fun c45 => ?_)
              · rw [if_pos c45] at hf
                refine am_bipush (v := (-2 : Int32)) (am_dec tmX12_planMap_1 39 rfl) (by decide) ?_
                refine am_goto (tgt := 182) (am_dec tmX12_planMap_1 40 rfl) (by decide) ?_
                have hf := Option.some.inj hf
                subst hf
                exact am_iret (am_dec tmX12_planMap_1 44 rfl) rfl (Nat.zero_le _) (Nat.zero_le _)
              · rw [if_neg c45] at hf
                refine am_iload_n (am_dec tmX12_planMap_1 36 rfl) rfl rfl ?_
                refine am_sipush (v := (1200 : Int32)) (am_dec tmX12_planMap_1 37 rfl) (by decide) ?_
                refine am_icmp_le (tgt := 176) (am_dec tmX12_planMap_1 38 rfl) (by decide) (fun c46 => ?_) (fun c46 => ?_)
                · rw [if_pos c46] at hf
                  refine am_aload_n (am_dec tmX12_planMap_1 41 rfl) rfl rfl ?_
                  refine am_iload (am_dec tmX12_planMap_1 42 rfl) rfl ?_
                  obtain ⟨x48, g47, hf⟩ := am_bd hf
                  refine am_callV1 (As := [.int e36.2.2.1]) (st := []) hE (am_dec tmX12_planMap_1 43 rfl) ok_X12_keepsMap rfl lm_X12_214 in_X12_keepsMap se_X12_keepsMap sh_117 cf12 (c_X12_keepsMap hE g47) rfl (by decide) (Nat.le_of_ble_eq_true rfl) (Nat.zero_le _) (Nat.zero_le _) rfl ?_
                  have hf := Option.some.inj hf
                  subst hf
                  exact am_iret (am_dec tmX12_planMap_1 44 rfl) rfl (Nat.zero_le _) (Nat.zero_le _)
                · rw [if_neg c46] at hf
                  refine am_bipush (v := (-2 : Int32)) (am_dec tmX12_planMap_1 39 rfl) (by decide) ?_
                  refine am_goto (tgt := 182) (am_dec tmX12_planMap_1 40 rfl) (by decide) ?_
                  have hf := Option.some.inj hf
                  subst hf
                  exact am_iret (am_dec tmX12_planMap_1 44 rfl) rfl (Nat.zero_le _) (Nat.zero_le _)
          replace hf := g49
          refine am_if_le (tgt := 152) (am_dec tmX12_planMap_1 21 rfl) (by decide) (fun c37 => ?_) (fun c37 => ?_)
          · rw [if_pos c37] at hf
            have hf := Option.some.inj hf
            subst hf
            exact am_pick [0, 1, 2, 3] rfl key38
          · rw [if_neg c37] at hf
            refine am_aload_n (am_dec tmX12_planMap_1 22 rfl) rfl rfl ?_
            refine am_getR (j := 11) hE (am_dec tmX12_planMap_1 23 rfl) sh_117 cf12 (by decide) rfl lf_X12_22 rf_117_11 ?_
            refine am_iload (am_dec tmX12_planMap_1 24 rfl) rfl ?_
            refine am_iconst (v := (1 : Int32)) (am_dec tmX12_planMap_1 25 rfl) (by decide) ?_
            refine am_isub (am_dec tmX12_planMap_1 26 rfl) ?_
            obtain ⟨j39, g40, hf⟩ := am_bd hf
            have hj_j39 := (am_gA_lt g40).1
            refine am_aald2 (t := 6) hE (am_dec tmX12_planMap_1 27 rfl) sh_120 (by decide) rfl rfl g40 (rr_120 hj_j39) ?_
            refine am_iconst (v := (0 : Int32)) (am_dec tmX12_planMap_1 28 rfl) (by decide) ?_
            refine am_iload_n (am_dec tmX12_planMap_1 29 rfl) rfl rfl ?_
            obtain ⟨D41, g42, hf⟩ := am_bd hf
            refine am_iast2 hE (am_dec tmX12_planMap_1 30 rfl) (sa_120_0 hj_j39) g42 ?_
            have hf := Option.some.inj hf
            subst hf
            exact am_pick [0, 1, 2, 3] rfl key38
        · rw [if_pos c14] at hf
          refine am_bipush (v := (-2 : Int32)) (am_dec tmX12_planMap_0 27 rfl) (by decide) ?_
          have hf := Option.some.inj hf
          subst hf
          exact am_iret (am_dec tmX12_planMap_0 28 rfl) rfl (Nat.zero_le _) (Nat.zero_le _)
      · rw [if_pos c11] at hf
        refine am_iconst (v := (-1 : Int32)) (am_dec tmX12_planMap_0 21 rfl) (by decide) ?_
        have hf := Option.some.inj hf
        subst hf
        exact am_iret (am_dec tmX12_planMap_0 22 rfl) rfl (Nat.zero_le _) (Nat.zero_le _)
    · rw [if_neg c10] at hf
      refine am_iconst (v := (0 : Int32)) (am_dec tmX12_planMap_0 15 rfl) (by decide) ?_
      have hf := Option.some.inj hf
      subst hf
      exact am_iret (am_dec tmX12_planMap_0 16 rfl) rfl (Nat.zero_le _) (Nat.zero_le _)
  replace hf := g51
  refine am_if_ne (tgt := 21) (am_dec tmX12_planMap_0 8 rfl) (by decide) (fun c5 => ?_) (fun c5 => ?_)
  · rw [if_neg c5] at hf
    refine am_iconst (v := (0 : Int32)) (am_dec tmX12_planMap_0 11 rfl) (by decide) ?_
    have hf := Option.some.inj hf
    subst hf
    exact am_pick [0, 1] rfl key6
  · rw [if_pos c5] at hf
    refine am_iconst (v := (1 : Int32)) (am_dec tmX12_planMap_0 9 rfl) (by decide) ?_
    refine am_goto (tgt := 22) (am_dec tmX12_planMap_0 10 rfl) (by decide) ?_
    have hf := Option.some.inj hf
    subst hf
    exact am_pick [0, 1] rfl key6
def f_X12_badRow (p1 : Int32) (p2 : Int32) (p3 : Int32) (D : am_D) : Option ((Int32 × am_D)) :=
    (f_X12_isSound p1 D).bind fun x2 =>
    (if x2 = 0 then
    some ((1 : Int32))
    else
    some ((0 : Int32))).bind fun w5 =>
    (f_X12_bad w5 (1 : Int32) D).bind fun x7 =>
    if x7.1 = 0 then
    (if p2 < 0 then
    some ((1 : Int32))
    else
    if p3 < 0 then
    some ((1 : Int32))
    else
    (am_gI x7.2 139 5 p1).bind fun x12 =>
    if x12 < p2 then
    some ((1 : Int32))
    else
    (am_gI x7.2 139 5 p1).bind fun x15 =>
    if p3 ≤ (x15 - p2) then
    some ((0 : Int32))
    else
    some ((1 : Int32))).bind fun w18 =>
    (f_X12_bad w18 (2 : Int32) x7.2).bind fun x20 =>
    if x20.1 = 0 then
    some ((0 : Int32), x20.2)
    else
    some ((1 : Int32), x20.2)
    else
    some ((1 : Int32), x7.2)
set_option maxRecDepth 100000 in
set_option maxHeartbeats 4000000 in
theorem c_X12_badRow {E : am_E} (hE : am_EH E) {p1 : Int32} {p2 : Int32} {p3 : Int32} {D : am_D} {r : (Int32 × am_D)}  (hf : f_X12_badRow p1 p2 p3 D = some r) : am_C E mX12_badRow 3 0 0 [.ref 117, .int p1, .int p2, .int p3] am_G0 D (.inl (some (.int r.1))) am_G0 r.2 := by
  refine am_C_of (by decide +kernel) (Nat.le_of_ble_eq_true rfl) ?_
  change am_S E mX12_badRow 3 0 0 (.inl (some (.int r.1))) am_G0 r.2 0 0 0 [(0, .ref 117), (1, .int p1), (2, .int p2), (3, .int p3)] [] am_G0 D
  unfold f_X12_badRow at hf
  refine am_aload_n (am_dec tmX12_badRow 0 rfl) rfl rfl ?_
  refine am_aload_n (am_dec tmX12_badRow 1 rfl) rfl rfl ?_
  refine am_iload_n (am_dec tmX12_badRow 2 rfl) rfl rfl ?_
  obtain ⟨x2, g1, hf⟩ := am_bd hf
  refine am_callV1 (As := [.int p1]) (st := [.ref 117]) hE (am_dec tmX12_badRow 3 rfl) ok_X12_isSound rfl lm_X12_217 in_X12_isSound se_X12_isSound sh_117 cf12 (c_X12_isSound hE g1) rfl (by decide) (Nat.le_of_ble_eq_true rfl) (Nat.zero_le _) (Nat.zero_le _) rfl ?_
  obtain ⟨w5, g23, hf⟩ := am_bd hf
  have key4 : am_S E mX12_badRow 3 0 0 (.inl (some (.int r.1))) am_G0 r.2 0 0 14 [(0, .ref 117), (1, .int p1), (2, .int p2), (3, .int p3)] [.int w5, .ref 117] am_G0 D := by
    refine am_iconst (v := (1 : Int32)) (am_dec tmX12_badRow 8 rfl) (by decide) ?_
    obtain ⟨x7, g6, hf⟩ := am_bd hf
    refine am_callV1 (As := [.int w5, .int (1 : Int32)]) (st := []) hE (am_dec tmX12_badRow 9 rfl) ok_X12_bad rfl lm_X12_191 in_X12_bad se_X12_bad sh_117 cf12 (c_X12_bad hE g6) rfl (by decide) (Nat.le_of_ble_eq_true rfl) (Nat.zero_le _) (Nat.zero_le _) rfl ?_
    refine am_if_ne (tgt := 64) (am_dec tmX12_badRow 10 rfl) (by decide) (fun c8 => ?_) (fun c8 => ?_)
    · rw [if_neg c8] at hf
      refine am_iconst (v := (1 : Int32)) (am_dec tmX12_badRow 36 rfl) (by decide) ?_
      refine am_goto (tgt := 69) (am_dec tmX12_badRow 37 rfl) (by decide) ?_
      have hf := Option.some.inj hf
      subst hf
      exact am_zret (am_dec tmX12_badRow 39 rfl) rfl am_z1 (Nat.zero_le _) (Nat.zero_le _)
    · rw [if_pos c8] at hf
      refine am_aload_n (am_dec tmX12_badRow 11 rfl) rfl rfl ?_
      refine am_iload_n (am_dec tmX12_badRow 12 rfl) rfl rfl ?_
      obtain ⟨w18, g22, hf⟩ := am_bd hf
      have key10 : am_S E mX12_badRow 3 0 0 (.inl (some (.int r.1))) am_G0 r.2 0 0 57 [] [.int w18, .ref 117] am_G0 x7.2 := by
        refine am_iconst (v := (2 : Int32)) (am_dec tmX12_badRow 33 rfl) (by decide) ?_
        obtain ⟨x20, g19, hf⟩ := am_bd hf
        refine am_callV1 (As := [.int w18, .int (2 : Int32)]) (st := []) hE (am_dec tmX12_badRow 34 rfl) ok_X12_bad rfl lm_X12_191 in_X12_bad se_X12_bad sh_117 cf12 (c_X12_bad hE g19) rfl (by decide) (Nat.le_of_ble_eq_true rfl) (Nat.zero_le _) (Nat.zero_le _) rfl ?_
        refine am_if_eq (tgt := 68) (am_dec tmX12_badRow 35 rfl) (by decide) (fun c21 => ?_) (fun c21 => ?_)
        · rw [if_pos c21] at hf
          refine am_iconst (v := (0 : Int32)) (am_dec tmX12_badRow 38 rfl) (by decide) ?_
          have hf := Option.some.inj hf
          subst hf
          exact am_zret (am_dec tmX12_badRow 39 rfl) rfl am_z0 (Nat.zero_le _) (Nat.zero_le _)
        · rw [if_neg c21] at hf
          refine am_iconst (v := (1 : Int32)) (am_dec tmX12_badRow 36 rfl) (by decide) ?_
          refine am_goto (tgt := 69) (am_dec tmX12_badRow 37 rfl) (by decide) ?_
          have hf := Option.some.inj hf
          subst hf
          exact am_zret (am_dec tmX12_badRow 39 rfl) rfl am_z1 (Nat.zero_le _) (Nat.zero_le _)
      replace hf := g22
      refine am_if_lt (tgt := 52) (am_dec tmX12_badRow 13 rfl) (by decide) (fun c9 => ?_) (fun c9 => ?_)
      · rw [if_pos c9] at hf
        refine am_iconst (v := (1 : Int32)) (am_dec tmX12_badRow 30 rfl) (by decide) ?_
        refine am_goto (tgt := 57) (am_dec tmX12_badRow 31 rfl) (by decide) ?_
        have hf := Option.some.inj hf
        subst hf
        exact am_pick [] rfl key10
      · rw [if_neg c9] at hf
        refine am_iload_n (am_dec tmX12_badRow 14 rfl) rfl rfl ?_
        refine am_if_lt (tgt := 52) (am_dec tmX12_badRow 15 rfl) (by decide) (fun c11 => ?_) (fun c11 => ?_)
        · rw [if_pos c11] at hf
          refine am_iconst (v := (1 : Int32)) (am_dec tmX12_badRow 30 rfl) (by decide) ?_
          refine am_goto (tgt := 57) (am_dec tmX12_badRow 31 rfl) (by decide) ?_
          have hf := Option.some.inj hf
          subst hf
          exact am_pick [] rfl key10
        · rw [if_neg c11] at hf
          refine am_iload_n (am_dec tmX12_badRow 16 rfl) rfl rfl ?_
          refine am_aload_n (am_dec tmX12_badRow 17 rfl) rfl rfl ?_
          refine am_getR (j := 25) hE (am_dec tmX12_badRow 18 rfl) sh_117 cf12 (by decide) rfl lf_X12_46 rf_117_25 ?_
          refine am_iload_n (am_dec tmX12_badRow 19 rfl) rfl rfl ?_
          obtain ⟨x12, g13, hf⟩ := am_bd hf
          refine am_iald2 hE (am_dec tmX12_badRow 20 rfl) sh_139 g13 ?_
          refine am_icmp_gt (tgt := 52) (am_dec tmX12_badRow 21 rfl) (by decide) (fun c14 => ?_) (fun c14 => ?_)
          · rw [if_pos c14] at hf
            refine am_iconst (v := (1 : Int32)) (am_dec tmX12_badRow 30 rfl) (by decide) ?_
            refine am_goto (tgt := 57) (am_dec tmX12_badRow 31 rfl) (by decide) ?_
            have hf := Option.some.inj hf
            subst hf
            exact am_pick [] rfl key10
          · rw [if_neg c14] at hf
            refine am_iload_n (am_dec tmX12_badRow 22 rfl) rfl rfl ?_
            refine am_aload_n (am_dec tmX12_badRow 23 rfl) rfl rfl ?_
            refine am_getR (j := 25) hE (am_dec tmX12_badRow 24 rfl) sh_117 cf12 (by decide) rfl lf_X12_46 rf_117_25 ?_
            refine am_iload_n (am_dec tmX12_badRow 25 rfl) rfl rfl ?_
            obtain ⟨x15, g16, hf⟩ := am_bd hf
            refine am_iald2 hE (am_dec tmX12_badRow 26 rfl) sh_139 g16 ?_
            refine am_iload_n (am_dec tmX12_badRow 27 rfl) rfl rfl ?_
            refine am_isub (am_dec tmX12_badRow 28 rfl) ?_
            refine am_icmp_le (tgt := 56) (am_dec tmX12_badRow 29 rfl) (by decide) (fun c17 => ?_) (fun c17 => ?_)
            · rw [if_pos c17] at hf
              refine am_iconst (v := (0 : Int32)) (am_dec tmX12_badRow 32 rfl) (by decide) ?_
              have hf := Option.some.inj hf
              subst hf
              exact am_pick [] rfl key10
            · rw [if_neg c17] at hf
              refine am_iconst (v := (1 : Int32)) (am_dec tmX12_badRow 30 rfl) (by decide) ?_
              refine am_goto (tgt := 57) (am_dec tmX12_badRow 31 rfl) (by decide) ?_
              have hf := Option.some.inj hf
              subst hf
              exact am_pick [] rfl key10
  replace hf := g23
  refine am_if_ne (tgt := 13) (am_dec tmX12_badRow 4 rfl) (by decide) (fun c3 => ?_) (fun c3 => ?_)
  · rw [if_neg c3] at hf
    refine am_iconst (v := (0 : Int32)) (am_dec tmX12_badRow 7 rfl) (by decide) ?_
    have hf := Option.some.inj hf
    subst hf
    exact am_pick [0, 1, 2, 3] rfl key4
  · rw [if_pos c3] at hf
    refine am_iconst (v := (1 : Int32)) (am_dec tmX12_badRow 5 rfl) (by decide) ?_
    refine am_goto (tgt := 14) (am_dec tmX12_badRow 6 rfl) (by decide) ?_
    have hf := Option.some.inj hf
    subst hf
    exact am_pick [0, 1, 2, 3] rfl key4
theorem z_X12_badRow {p1 : Int32} {p2 : Int32} {p3 : Int32} {D : am_D} {r : (Int32 × am_D)} (hf : f_X12_badRow p1 p2 p3 D = some r) : narrow .boolean (.int r.1) = .int r.1 := by
  unfold f_X12_badRow at hf
  obtain ⟨x2, g1, hf⟩ := am_bd hf
  obtain ⟨w5, g23, hf⟩ := am_bd hf
  have key4 : narrow .boolean (.int r.1) = .int r.1 := by
    obtain ⟨x7, g6, hf⟩ := am_bd hf
    by_cases c8 : x7.1 = 0
    · rw [if_pos c8] at hf
      obtain ⟨w18, g22, hf⟩ := am_bd hf
      have key10 : narrow .boolean (.int r.1) = .int r.1 := by
        obtain ⟨x20, g19, hf⟩ := am_bd hf
        by_cases c21 : x20.1 = 0
        · rw [if_pos c21] at hf
          have hf := Option.some.inj hf
          subst hf
          exact am_z0
        · rw [if_neg c21] at hf
          have hf := Option.some.inj hf
          subst hf
          exact am_z1
      replace hf := g22
      by_cases c9 : p2 < 0
      · rw [if_pos c9] at hf
        have hf := Option.some.inj hf
        subst hf
        exact key10
      · rw [if_neg c9] at hf
        by_cases c11 : p3 < 0
        · rw [if_pos c11] at hf
          have hf := Option.some.inj hf
          subst hf
          exact key10
        · rw [if_neg c11] at hf
          obtain ⟨x12, g13, hf⟩ := am_bd hf
          by_cases c14 : x12 < p2
          · rw [if_pos c14] at hf
            have hf := Option.some.inj hf
            subst hf
            exact key10
          · rw [if_neg c14] at hf
            obtain ⟨x15, g16, hf⟩ := am_bd hf
            by_cases c17 : p3 ≤ (x15 - p2)
            · rw [if_pos c17] at hf
              have hf := Option.some.inj hf
              subst hf
              exact key10
            · rw [if_neg c17] at hf
              have hf := Option.some.inj hf
              subst hf
              exact key10
    · rw [if_neg c8] at hf
      have hf := Option.some.inj hf
      subst hf
      exact am_z1
  replace hf := g23
  by_cases c3 : x2 = 0
  · rw [if_pos c3] at hf
    have hf := Option.some.inj hf
    subst hf
    exact key4
  · rw [if_neg c3] at hf
    have hf := Option.some.inj hf
    subst hf
    exact key4
def f_X12_pitch_L50 (q1 : Int32) (q2 : Int32) (q3 : Int32) (q4 : Int32) (q5 : Int64) (q7 : Int64) (q9 : Int32) (D : am_D) : Nat → Int64 → Int32 → Option (Int64)
  | 0, _, _ => none
  | n + 1, v10, v12 =>
    if (q2 + q3) ≤ (v12 + q9) then
    some (v10)
    else
    (am_gA 5 q1).bind fun j9 =>
    (am_gI D (134 + j9) 600 v12).bind fun x11 =>
    (am_gA 5 q1).bind fun j13 =>
    (am_gI D (134 + j13) 600 (v12 + q9)).bind fun x15 =>
    (f_X12_amount (x11 - x15)).bind fun x18 =>
    f_X12_pitch_L50 q1 q2 q3 q4 q5 q7 q9 D n (v10 + (Int32.toInt64 x18)) (v12 + (1 : Int32))
def f_X12_pitch_L29 (q1 : Int32) (q2 : Int32) (q3 : Int32) (D : am_D) : Nat → Int32 → Int64 → Int64 → Int32 → Option (Int32)
  | 0, _, _, _, _ => none
  | n + 1, v4, v5, v7, v9 =>
    if (60 : Int32) < v9 then
    some (v4)
    else
    if q3 < ((2 : Int32) * v9) then
    some (v4)
    else
    (f_X12_pitch_L50 q1 q2 q3 v4 v5 v7 v9 D am_fu (0 : Int64) q2).bind fun e19 =>
    (if v4 = (-1 : Int32) then
    some (v9, e19, (Int32.toInt64 (q3 - v9)))
    else
    if (lg_cmp (e19 * v7) (v5 * (Int32.toInt64 (q3 - v9)))) < 0 then
    some (v9, e19, (Int32.toInt64 (q3 - v9)))
    else
    some (v4, v5, v7)).bind fun w23 =>
    f_X12_pitch_L29 q1 q2 q3 D n w23.1 w23.2.1 w23.2.2 (v9 + (1 : Int32))
def f_X12_pitch (p1 : Int32) (p2 : Int32) (p3 : Int32) (D : am_D) : Option ((Int32 × am_D)) :=
    (some (am_wI D 117 0 (0 : Int32))).bind fun D1 =>
    (f_X12_badRow p1 p2 p3 D1).bind fun x4 =>
    if x4.1 = 0 then
    (f_X12_pitch_L29 p1 p2 p3 x4.2 am_fu (-1 : Int32) (0 : Int64) (1 : Int64) (4 : Int32)).bind fun e26 =>
    some (e26, x4.2)
    else
    some ((0 : Int32), x4.2)
set_option maxRecDepth 100000 in
set_option maxHeartbeats 4000000 in
theorem l_X12_pitch_L50 {E : am_E} (hE : am_EH E) {d mc ms : Nat} {o : am_O} {G2 : am_G} {D2 : am_D} (hdp : 4 ≤ d) {q1 : Int32} {q2 : Int32} {q3 : Int32} {q4 : Int32} {q5 : Int64} {q7 : Int64} {q9 : Int32} {D : am_D}  : ∀ (n : Nat) (v10 : Int64) (v12 : Int32) (ex0 : Int64), f_X12_pitch_L50 q1 q2 q3 q4 q5 q7 q9 D n v10 v12 = some ex0 → (∀ ex : Int64, ex0 = ex → am_S E mX12_pitch d mc ms o G2 D2 0 0 98 [(0, .ref 117), (1, .int q1), (2, .int q2), (3, .int q3), (4, .int q4), (5, .long q5), (7, .long q7), (9, .int q9), (10, .long ex)] [] am_G0 D) → am_S E mX12_pitch d mc ms o G2 D2 0 0 50 [(0, .ref 117), (1, .int q1), (2, .int q2), (3, .int q3), (4, .int q4), (5, .long q5), (7, .long q7), (9, .int q9), (10, .long v10), (12, .int v12)] [] am_G0 D
  | 0, _, _, _, hf, _ => by
    unfold f_X12_pitch_L50 at hf
    cases hf
  | n + 1, v10, v12, ex0, hf, hk0 => by
    unfold f_X12_pitch_L50 at hf
    refine am_iload (am_dec tmX12_pitch_0 31 rfl) rfl ?_
    refine am_iload (am_dec tmX12_pitch_0 32 rfl) rfl ?_
    refine am_iadd (am_dec tmX12_pitch_0 33 rfl) ?_
    refine am_iload_n (am_dec tmX12_pitch_0 34 rfl) rfl rfl ?_
    refine am_iload_n (am_dec tmX12_pitch_0 35 rfl) rfl rfl ?_
    refine am_iadd (am_dec tmX12_pitch_0 36 rfl) ?_
    refine am_icmp_ge (tgt := 98) (am_dec tmX12_pitch_0 37 rfl) (by decide) (fun c8 => ?_) (fun c8 => ?_)
    · rw [if_pos c8] at hf
      have hf := Option.some.inj hf
      subst hf
      exact am_pick [0, 1, 2, 3, 4, 5, 6, 7, 8] rfl (hk0 _ rfl)
    · rw [if_neg c8] at hf
      refine am_lload (am_dec tmX12_pitch_0 38 rfl) rfl ?_
      refine am_aload_n (am_dec tmX12_pitch_0 39 rfl) rfl rfl ?_
      refine am_getR (j := 24) hE (am_dec tmX12_pitch_0 40 rfl) sh_117 cf12 (by decide) rfl lf_X12_43 rf_117_24 ?_
      refine am_iload_n (am_dec tmX12_pitch_0 41 rfl) rfl rfl ?_
      obtain ⟨j9, g10, hf⟩ := am_bd hf
      have hj_j9 := (am_gA_lt g10).1
      refine am_aald2 (t := 6) hE (am_dec tmX12_pitch_0 42 rfl) sh_133 (by decide) rfl rfl g10 (rr_133 hj_j9) ?_
      refine am_iload (am_dec tmX12_pitch_0 43 rfl) rfl ?_
      obtain ⟨x11, g12, hf⟩ := am_bd hf
      refine am_iald2 hE (am_dec tmX12_pitch_0 44 rfl) (sa_133_0 hj_j9) g12 ?_
      refine am_aload_n (am_dec tmX12_pitch_0 45 rfl) rfl rfl ?_
      refine am_getR (j := 24) hE (am_dec tmX12_pitch_0 46 rfl) sh_117 cf12 (by decide) rfl lf_X12_43 rf_117_24 ?_
      refine am_iload_n (am_dec tmX12_pitch_0 47 rfl) rfl rfl ?_
      obtain ⟨j13, g14, hf⟩ := am_bd hf
      have hj_j13 := (am_gA_lt g14).1
      refine am_aald2 (t := 6) hE (am_dec tmX12_pitch_0 48 rfl) sh_133 (by decide) rfl rfl g14 (rr_133 hj_j13) ?_
      refine am_iload (am_dec tmX12_pitch_0 49 rfl) rfl ?_
      refine am_iload (am_dec tmX12_pitch_0 50 rfl) rfl ?_
      refine am_iadd (am_dec tmX12_pitch_0 51 rfl) ?_
      obtain ⟨x15, g16, hf⟩ := am_bd hf
      refine am_iald2 hE (am_dec tmX12_pitch_0 52 rfl) (sa_133_0 hj_j13) g16 ?_
      refine am_isub (am_dec tmX12_pitch_0 53 rfl) ?_
      obtain ⟨x18, g17, hf⟩ := am_bd hf
      refine am_callS1 (As := [.int (x11 - x15)]) (st := [.long v10]) (am_dec tmX12_pitch_0 54 rfl) ok_X12_amount rfl lm_X12_281 st_X12_amount (c_X12_amount hE g17) rfl (Nat.lt_of_lt_of_le (by decide) hdp) (Nat.le_of_ble_eq_true rfl) (Nat.zero_le _) (Nat.zero_le _) rfl ?_
      refine am_i2l (am_dec tmX12_pitch_0 55 rfl) ?_
      refine am_ladd (am_dec tmX12_pitch_0 56 rfl) ?_
      refine am_lstore (lv' := [(0, .ref 117), (1, .int q1), (2, .int q2), (3, .int q3), (4, .int q4), (5, .long q5), (7, .long q7), (9, .int q9), (10, .long (v10 + (Int32.toInt64 x18))), (12, .int v12)]) (am_dec tmX12_pitch_0 57 rfl) (by decide) rfl ?_
      refine am_iinc (v := (1 : Int32)) (lv' := [(0, .ref 117), (1, .int q1), (2, .int q2), (3, .int q3), (4, .int q4), (5, .long q5), (7, .long q7), (9, .int q9), (10, .long (v10 + (Int32.toInt64 x18))), (12, .int (v12 + (1 : Int32)))]) (am_dec tmX12_pitch_0 58 rfl) rfl (by decide) (by decide) rfl ?_
      refine am_goto (tgt := 50) (am_dec tmX12_pitch_0 59 rfl) (by decide) ?_
      exact am_pick [0, 1, 2, 3, 4, 5, 6, 7, 8, 9] rfl (l_X12_pitch_L50 hE hdp n (v10 + (Int32.toInt64 x18)) (v12 + (1 : Int32)) ex0 hf hk0)
set_option maxRecDepth 100000 in
set_option maxHeartbeats 4000000 in
theorem l_X12_pitch_L29 {E : am_E} (hE : am_EH E) {d mc ms : Nat} {o : am_O} {G2 : am_G} {D2 : am_D} (hdp : 4 ≤ d) {q1 : Int32} {q2 : Int32} {q3 : Int32} {D : am_D}  : ∀ (n : Nat) (v4 : Int32) (v5 : Int64) (v7 : Int64) (v9 : Int32) (ex0 : Int32), f_X12_pitch_L29 q1 q2 q3 D n v4 v5 v7 v9 = some ex0 → (∀ ex : Int32, ex0 = ex → am_S E mX12_pitch d mc ms o G2 D2 0 0 145 [(4, .int ex)] [] am_G0 D) → am_S E mX12_pitch d mc ms o G2 D2 0 0 29 [(0, .ref 117), (1, .int q1), (2, .int q2), (3, .int q3), (4, .int v4), (5, .long v5), (7, .long v7), (9, .int v9)] [] am_G0 D
  | 0, _, _, _, _, _, hf, _ => by
    unfold f_X12_pitch_L29 at hf
    cases hf
  | n + 1, v4, v5, v7, v9, ex0, hf, hk0 => by
    unfold f_X12_pitch_L29 at hf
    refine am_iload (am_dec tmX12_pitch_0 19 rfl) rfl ?_
    refine am_bipush (v := (60 : Int32)) (am_dec tmX12_pitch_0 20 rfl) (by decide) ?_
    refine am_icmp_gt (tgt := 145) (am_dec tmX12_pitch_0 21 rfl) (by decide) (fun c6 => ?_) (fun c6 => ?_)
    · rw [if_pos c6] at hf
      have hf := Option.some.inj hf
      subst hf
      exact am_pick [4] rfl (hk0 _ rfl)
    · rw [if_neg c6] at hf
      refine am_iconst (v := (2 : Int32)) (am_dec tmX12_pitch_0 22 rfl) (by decide) ?_
      refine am_iload (am_dec tmX12_pitch_0 23 rfl) rfl ?_
      refine am_imul (am_dec tmX12_pitch_0 24 rfl) ?_
      refine am_iload_n (am_dec tmX12_pitch_0 25 rfl) rfl rfl ?_
      refine am_icmp_gt (tgt := 145) (am_dec tmX12_pitch_0 26 rfl) (by decide) (fun c7 => ?_) (fun c7 => ?_)
      · rw [if_pos c7] at hf
        have hf := Option.some.inj hf
        subst hf
        exact am_pick [4] rfl (hk0 _ rfl)
      · rw [if_neg c7] at hf
        refine am_lconst (v := (0 : Int64)) (am_dec tmX12_pitch_0 27 rfl) (by decide) ?_
        refine am_lstore (lv' := [(0, .ref 117), (1, .int q1), (2, .int q2), (3, .int q3), (4, .int v4), (5, .long v5), (7, .long v7), (9, .int v9), (10, .long (0 : Int64))]) (am_dec tmX12_pitch_0 28 rfl) (by decide) rfl ?_
        refine am_iload_n (am_dec tmX12_pitch_0 29 rfl) rfl rfl ?_
        refine am_istore (lv' := [(0, .ref 117), (1, .int q1), (2, .int q2), (3, .int q3), (4, .int v4), (5, .long v5), (7, .long v7), (9, .int v9), (10, .long (0 : Int64)), (12, .int q2)]) (am_dec tmX12_pitch_0 30 rfl) (by decide) rfl ?_
        obtain ⟨e19, g25, hf⟩ := am_bd hf
        refine am_pick [0, 1, 2, 3, 4, 5, 6, 7, 8, 9] rfl (l_X12_pitch_L50 hE hdp am_fu _ _ _ g25 (fun ex he => ?_))
        subst he
        refine am_iload (am_dec tmX12_pitch_1 0 rfl) rfl ?_
        refine am_iconst (v := (-1 : Int32)) (am_dec tmX12_pitch_1 1 rfl) (by decide) ?_
        obtain ⟨w23, g24, hf⟩ := am_bd hf
        have key21 : am_S E mX12_pitch d mc ms o G2 D2 0 0 139 [(0, .ref 117), (1, .int q1), (2, .int q2), (3, .int q3), (4, .int w23.1), (5, .long w23.2.1), (7, .long w23.2.2), (9, .int v9)] [] am_G0 D := by
          refine am_iinc (v := (1 : Int32)) (lv' := [(0, .ref 117), (1, .int q1), (2, .int q2), (3, .int q3), (4, .int w23.1), (5, .long w23.2.1), (7, .long w23.2.2), (9, .int (v9 + (1 : Int32)))]) (am_dec tmX12_pitch_1 24 rfl) rfl (by decide) (by decide) rfl ?_
          refine am_goto (tgt := 29) (am_dec tmX12_pitch_1 25 rfl) (by decide) ?_
          exact am_pick [0, 1, 2, 3, 4, 5, 6, 7] rfl (l_X12_pitch_L29 hE hdp n w23.1 w23.2.1 w23.2.2 (v9 + (1 : Int32)) ex0 hf hk0)
        replace hf := g24
        refine am_icmp_eq (tgt := 124) (am_dec tmX12_pitch_1 2 rfl) (by decide) (fun c20 => ?_) (fun c20 => ?_)
        · rw [if_pos c20] at hf
          refine am_iload (am_dec tmX12_pitch_1 15 rfl) rfl ?_
          refine am_istore (lv' := [(0, .ref 117), (1, .int q1), (2, .int q2), (3, .int q3), (4, .int v9), (5, .long v5), (7, .long v7), (9, .int v9), (10, .long e19)]) (am_dec tmX12_pitch_1 16 rfl) (by decide) rfl ?_
          refine am_lload (am_dec tmX12_pitch_1 17 rfl) rfl ?_
          refine am_lstore (lv' := [(0, .ref 117), (1, .int q1), (2, .int q2), (3, .int q3), (4, .int v9), (5, .long e19), (7, .long v7), (9, .int v9), (10, .long e19)]) (am_dec tmX12_pitch_1 18 rfl) (by decide) rfl ?_
          refine am_iload_n (am_dec tmX12_pitch_1 19 rfl) rfl rfl ?_
          refine am_iload (am_dec tmX12_pitch_1 20 rfl) rfl ?_
          refine am_isub (am_dec tmX12_pitch_1 21 rfl) ?_
          refine am_i2l (am_dec tmX12_pitch_1 22 rfl) ?_
          refine am_lstore (lv' := [(0, .ref 117), (1, .int q1), (2, .int q2), (3, .int q3), (4, .int v9), (5, .long e19), (7, .long (Int32.toInt64 (q3 - v9))), (9, .int v9), (10, .long e19)]) (am_dec tmX12_pitch_1 23 rfl) (by decide) rfl ?_
          have hf := Option.some.inj hf
          subst hf
          exact am_pick [0, 1, 2, 3, 4, 5, 6, 7] rfl key21
        · rw [if_neg c20] at hf
          refine am_lload (am_dec tmX12_pitch_1 3 rfl) rfl ?_
          refine am_lload (am_dec tmX12_pitch_1 4 rfl) rfl ?_
          refine am_lmul (am_dec tmX12_pitch_1 5 rfl) ?_
          refine am_lload (am_dec tmX12_pitch_1 6 rfl) rfl ?_
          refine am_iload_n (am_dec tmX12_pitch_1 7 rfl) rfl rfl ?_
          refine am_iload (am_dec tmX12_pitch_1 8 rfl) rfl ?_
          refine am_isub (am_dec tmX12_pitch_1 9 rfl) ?_
          refine am_i2l (am_dec tmX12_pitch_1 10 rfl) ?_
          refine am_lmul (am_dec tmX12_pitch_1 11 rfl) ?_
          refine am_lcmp (am_dec tmX12_pitch_1 12 rfl) ?_
          refine am_if_lt (tgt := 124) (am_dec tmX12_pitch_1 13 rfl) (by decide) (fun c22 => ?_) (fun c22 => ?_)
          · rw [if_pos c22] at hf
            refine am_iload (am_dec tmX12_pitch_1 15 rfl) rfl ?_
            refine am_istore (lv' := [(0, .ref 117), (1, .int q1), (2, .int q2), (3, .int q3), (4, .int v9), (5, .long v5), (7, .long v7), (9, .int v9), (10, .long e19)]) (am_dec tmX12_pitch_1 16 rfl) (by decide) rfl ?_
            refine am_lload (am_dec tmX12_pitch_1 17 rfl) rfl ?_
            refine am_lstore (lv' := [(0, .ref 117), (1, .int q1), (2, .int q2), (3, .int q3), (4, .int v9), (5, .long e19), (7, .long v7), (9, .int v9), (10, .long e19)]) (am_dec tmX12_pitch_1 18 rfl) (by decide) rfl ?_
            refine am_iload_n (am_dec tmX12_pitch_1 19 rfl) rfl rfl ?_
            refine am_iload (am_dec tmX12_pitch_1 20 rfl) rfl ?_
            refine am_isub (am_dec tmX12_pitch_1 21 rfl) ?_
            refine am_i2l (am_dec tmX12_pitch_1 22 rfl) ?_
            refine am_lstore (lv' := [(0, .ref 117), (1, .int q1), (2, .int q2), (3, .int q3), (4, .int v9), (5, .long e19), (7, .long (Int32.toInt64 (q3 - v9))), (9, .int v9), (10, .long e19)]) (am_dec tmX12_pitch_1 23 rfl) (by decide) rfl ?_
            have hf := Option.some.inj hf
            subst hf
            exact am_pick [0, 1, 2, 3, 4, 5, 6, 7] rfl key21
          · rw [if_neg c22] at hf
            refine am_goto (tgt := 139) (am_dec tmX12_pitch_1 14 rfl) (by decide) ?_
            have hf := Option.some.inj hf
            subst hf
            exact am_pick [0, 1, 2, 3, 4, 5, 6, 7] rfl key21
set_option maxRecDepth 100000 in
set_option maxHeartbeats 4000000 in
theorem c_X12_pitch {E : am_E} (hE : am_EH E) {p1 : Int32} {p2 : Int32} {p3 : Int32} {D : am_D} {r : (Int32 × am_D)}  (hf : f_X12_pitch p1 p2 p3 D = some r) : am_C E mX12_pitch 4 0 0 [.ref 117, .int p1, .int p2, .int p3] am_G0 D (.inl (some (.int r.1))) am_G0 r.2 := by
  refine am_C_of (by decide +kernel) (Nat.le_of_ble_eq_true rfl) ?_
  change am_S E mX12_pitch 4 0 0 (.inl (some (.int r.1))) am_G0 r.2 0 0 0 [(0, .ref 117), (1, .int p1), (2, .int p2), (3, .int p3)] [] am_G0 D
  unfold f_X12_pitch at hf
  refine am_aload_n (am_dec tmX12_pitch_0 0 rfl) rfl rfl ?_
  refine am_iconst (v := (0 : Int32)) (am_dec tmX12_pitch_0 1 rfl) (by decide) ?_
  obtain ⟨D1, g2, hf⟩ := am_bd hf
  refine am_putI2 (j := 0) hE (am_dec tmX12_pitch_0 2 rfl) sh_117 cf12 (by decide) rfl lf_X12_110 rfl rfl rfl g2 ?_
  refine am_aload_n (am_dec tmX12_pitch_0 3 rfl) rfl rfl ?_
  refine am_iload_n (am_dec tmX12_pitch_0 4 rfl) rfl rfl ?_
  refine am_iload_n (am_dec tmX12_pitch_0 5 rfl) rfl rfl ?_
  refine am_iload_n (am_dec tmX12_pitch_0 6 rfl) rfl rfl ?_
  obtain ⟨x4, g3, hf⟩ := am_bd hf
  refine am_callV1 (As := [.int p1, .int p2, .int p3]) (st := []) hE (am_dec tmX12_pitch_0 7 rfl) ok_X12_badRow rfl lm_X12_348 in_X12_badRow se_X12_badRow sh_117 cf12 (c_X12_badRow hE g3) rfl (by decide) (Nat.le_of_ble_eq_true rfl) (Nat.zero_le _) (Nat.zero_le _) rfl ?_
  refine am_if_eq (tgt := 17) (am_dec tmX12_pitch_0 8 rfl) (by decide) (fun c5 => ?_) (fun c5 => ?_)
  · rw [if_pos c5] at hf
    refine am_iconst (v := (-1 : Int32)) (am_dec tmX12_pitch_0 11 rfl) (by decide) ?_
    refine am_istore (lv' := [(0, .ref 117), (1, .int p1), (2, .int p2), (3, .int p3), (4, .int (-1 : Int32))]) (am_dec tmX12_pitch_0 12 rfl) (by decide) rfl ?_
    refine am_lconst (v := (0 : Int64)) (am_dec tmX12_pitch_0 13 rfl) (by decide) ?_
    refine am_lstore (lv' := [(0, .ref 117), (1, .int p1), (2, .int p2), (3, .int p3), (4, .int (-1 : Int32)), (5, .long (0 : Int64))]) (am_dec tmX12_pitch_0 14 rfl) (by decide) rfl ?_
    refine am_lconst (v := (1 : Int64)) (am_dec tmX12_pitch_0 15 rfl) (by decide) ?_
    refine am_lstore (lv' := [(0, .ref 117), (1, .int p1), (2, .int p2), (3, .int p3), (4, .int (-1 : Int32)), (5, .long (0 : Int64)), (7, .long (1 : Int64))]) (am_dec tmX12_pitch_0 16 rfl) (by decide) rfl ?_
    refine am_iconst (v := (4 : Int32)) (am_dec tmX12_pitch_0 17 rfl) (by decide) ?_
    refine am_istore (lv' := [(0, .ref 117), (1, .int p1), (2, .int p2), (3, .int p3), (4, .int (-1 : Int32)), (5, .long (0 : Int64)), (7, .long (1 : Int64)), (9, .int (4 : Int32))]) (am_dec tmX12_pitch_0 18 rfl) (by decide) rfl ?_
    obtain ⟨e26, g27, hf⟩ := am_bd hf
    refine am_pick [0, 1, 2, 3, 4, 5, 6, 7] rfl (l_X12_pitch_L29 hE (Nat.le_refl _) am_fu _ _ _ _ _ g27 (fun ex he => ?_))
    subst he
    refine am_iload (am_dec tmX12_pitch_1 26 rfl) rfl ?_
    have hf := Option.some.inj hf
    subst hf
    exact am_iret (am_dec tmX12_pitch_1 27 rfl) rfl (Nat.zero_le _) (Nat.zero_le _)
  · rw [if_neg c5] at hf
    refine am_iconst (v := (0 : Int32)) (am_dec tmX12_pitch_0 9 rfl) (by decide) ?_
    have hf := Option.some.inj hf
    subst hf
    exact am_iret (am_dec tmX12_pitch_0 10 rfl) rfl (Nat.zero_le _) (Nat.zero_le _)
def f_X12_half (p0 : Int32) (p1 : Int32) : Option (Int32) :=
    (am_rm p0 p1).bind fun x1 =>
    if p1 ≤ ((2 : Int32) * x1) then
    some (-1 : Int32)
    else
    some (1 : Int32)
set_option maxRecDepth 100000 in
set_option maxHeartbeats 4000000 in
theorem c_X12_half {E : am_E} (hE : am_EH E) {p0 : Int32} {p1 : Int32} {D : am_D} {r : Int32}  (hf : f_X12_half p0 p1 = some r) : am_C E mX12_half 1 0 0 [.int p0, .int p1] am_G0 D (.inl (some (.int r))) am_G0 D := by
  refine am_C_of (by decide +kernel) (Nat.le_of_ble_eq_true rfl) ?_
  change am_S E mX12_half 1 0 0 (.inl (some (.int r))) am_G0 D 0 0 0 [(0, .int p0), (1, .int p1)] [] am_G0 D
  unfold f_X12_half at hf
  refine am_iconst (v := (2 : Int32)) (am_dec tmX12_half 0 rfl) (by decide) ?_
  refine am_iload_n (am_dec tmX12_half 1 rfl) rfl rfl ?_
  refine am_iload_n (am_dec tmX12_half 2 rfl) rfl rfl ?_
  obtain ⟨x1, g2, hf⟩ := am_bd hf
  refine am_irem2 (am_dec tmX12_half 3 rfl) g2 ?_
  refine am_imul (am_dec tmX12_half 4 rfl) ?_
  refine am_iload_n (am_dec tmX12_half 5 rfl) rfl rfl ?_
  refine am_icmp_ge (tgt := 13) (am_dec tmX12_half 6 rfl) (by decide) (fun c3 => ?_) (fun c3 => ?_)
  · rw [if_pos c3] at hf
    refine am_iconst (v := (-1 : Int32)) (am_dec tmX12_half 9 rfl) (by decide) ?_
    have hf := Option.some.inj hf
    subst hf
    exact am_iret (am_dec tmX12_half 10 rfl) rfl (Nat.zero_le _) (Nat.zero_le _)
  · rw [if_neg c3] at hf
    refine am_iconst (v := (1 : Int32)) (am_dec tmX12_half 7 rfl) (by decide) ?_
    refine am_goto (tgt := 14) (am_dec tmX12_half 8 rfl) (by decide) ?_
    have hf := Option.some.inj hf
    subst hf
    exact am_iret (am_dec tmX12_half 10 rfl) rfl (Nat.zero_le _) (Nat.zero_le _)
def f_X12_turnedBy_L6 (q1 : Int32) (q2 : Int32) (q3 : Int32) (q4 : Int32) (q5 : Int32) (D : am_D) : Nat → Int32 → Int32 → Option (Int32)
  | 0, _, _ => none
  | n + 1, v6, v7 =>
    if q4 ≤ v7 then
    some (v6)
    else
    (f_X12_half (v7 + q5) q2).bind fun x3 =>
    (am_gA 5 q1).bind fun j4 =>
    (am_gI D (134 + j4) 600 (q3 + v7)).bind fun x6 =>
    f_X12_turnedBy_L6 q1 q2 q3 q4 q5 D n (v6 + (x3 * x6)) (v7 + (1 : Int32))
def f_X12_turnedBy (p1 : Int32) (p2 : Int32) (p3 : Int32) (p4 : Int32) (p5 : Int32) (D : am_D) : Option (Int32) :=
    (f_X12_turnedBy_L6 p1 p2 p3 p4 p5 D am_fu (0 : Int32) (0 : Int32)).bind fun e8 =>
    some e8
set_option maxRecDepth 100000 in
set_option maxHeartbeats 4000000 in
theorem l_X12_turnedBy_L6 {E : am_E} (hE : am_EH E) {d mc ms : Nat} {o : am_O} {G2 : am_G} {D2 : am_D} (hdp : 2 ≤ d) {q1 : Int32} {q2 : Int32} {q3 : Int32} {q4 : Int32} {q5 : Int32} {D : am_D}  : ∀ (n : Nat) (v6 : Int32) (v7 : Int32) (ex0 : Int32), f_X12_turnedBy_L6 q1 q2 q3 q4 q5 D n v6 v7 = some ex0 → (∀ ex : Int32, ex0 = ex → am_S E mX12_turnedBy d mc ms o G2 D2 0 0 45 [(6, .int ex)] [] am_G0 D) → am_S E mX12_turnedBy d mc ms o G2 D2 0 0 6 [(0, .ref 117), (1, .int q1), (2, .int q2), (3, .int q3), (4, .int q4), (5, .int q5), (6, .int v6), (7, .int v7)] [] am_G0 D
  | 0, _, _, _, hf, _ => by
    unfold f_X12_turnedBy_L6 at hf
    cases hf
  | n + 1, v6, v7, ex0, hf, hk0 => by
    unfold f_X12_turnedBy_L6 at hf
    refine am_iload (am_dec tmX12_turnedBy 4 rfl) rfl ?_
    refine am_iload (am_dec tmX12_turnedBy 5 rfl) rfl ?_
    refine am_icmp_ge (tgt := 45) (am_dec tmX12_turnedBy 6 rfl) (by decide) (fun c1 => ?_) (fun c1 => ?_)
    · rw [if_pos c1] at hf
      have hf := Option.some.inj hf
      subst hf
      exact am_pick [6] rfl (hk0 _ rfl)
    · rw [if_neg c1] at hf
      refine am_iload (am_dec tmX12_turnedBy 7 rfl) rfl ?_
      refine am_iload (am_dec tmX12_turnedBy 8 rfl) rfl ?_
      refine am_iload (am_dec tmX12_turnedBy 9 rfl) rfl ?_
      refine am_iadd (am_dec tmX12_turnedBy 10 rfl) ?_
      refine am_iload_n (am_dec tmX12_turnedBy 11 rfl) rfl rfl ?_
      obtain ⟨x3, g2, hf⟩ := am_bd hf
      refine am_callS1 (As := [.int (v7 + q5), .int q2]) (st := [.int v6]) (am_dec tmX12_turnedBy 12 rfl) ok_X12_half rfl lm_X12_351 st_X12_half (c_X12_half hE g2) rfl (Nat.lt_of_lt_of_le (by decide) hdp) (Nat.le_of_ble_eq_true rfl) (Nat.zero_le _) (Nat.zero_le _) rfl ?_
      refine am_aload_n (am_dec tmX12_turnedBy 13 rfl) rfl rfl ?_
      refine am_getR (j := 24) hE (am_dec tmX12_turnedBy 14 rfl) sh_117 cf12 (by decide) rfl lf_X12_43 rf_117_24 ?_
      refine am_iload_n (am_dec tmX12_turnedBy 15 rfl) rfl rfl ?_
      obtain ⟨j4, g5, hf⟩ := am_bd hf
      have hj_j4 := (am_gA_lt g5).1
      refine am_aald2 (t := 6) hE (am_dec tmX12_turnedBy 16 rfl) sh_133 (by decide) rfl rfl g5 (rr_133 hj_j4) ?_
      refine am_iload_n (am_dec tmX12_turnedBy 17 rfl) rfl rfl ?_
      refine am_iload (am_dec tmX12_turnedBy 18 rfl) rfl ?_
      refine am_iadd (am_dec tmX12_turnedBy 19 rfl) ?_
      obtain ⟨x6, g7, hf⟩ := am_bd hf
      refine am_iald2 hE (am_dec tmX12_turnedBy 20 rfl) (sa_133_0 hj_j4) g7 ?_
      refine am_imul (am_dec tmX12_turnedBy 21 rfl) ?_
      refine am_iadd (am_dec tmX12_turnedBy 22 rfl) ?_
      refine am_istore (lv' := [(0, .ref 117), (1, .int q1), (2, .int q2), (3, .int q3), (4, .int q4), (5, .int q5), (6, .int (v6 + (x3 * x6))), (7, .int v7)]) (am_dec tmX12_turnedBy 23 rfl) (by decide) rfl ?_
      refine am_iinc (v := (1 : Int32)) (lv' := [(0, .ref 117), (1, .int q1), (2, .int q2), (3, .int q3), (4, .int q4), (5, .int q5), (6, .int (v6 + (x3 * x6))), (7, .int (v7 + (1 : Int32)))]) (am_dec tmX12_turnedBy 24 rfl) rfl (by decide) (by decide) rfl ?_
      refine am_goto (tgt := 6) (am_dec tmX12_turnedBy 25 rfl) (by decide) ?_
      exact am_pick [0, 1, 2, 3, 4, 5, 6, 7] rfl (l_X12_turnedBy_L6 hE hdp n (v6 + (x3 * x6)) (v7 + (1 : Int32)) ex0 hf hk0)
set_option maxRecDepth 100000 in
set_option maxHeartbeats 4000000 in
theorem c_X12_turnedBy {E : am_E} (hE : am_EH E) {p1 : Int32} {p2 : Int32} {p3 : Int32} {p4 : Int32} {p5 : Int32} {D : am_D} {r : Int32}  (hf : f_X12_turnedBy p1 p2 p3 p4 p5 D = some r) : am_C E mX12_turnedBy 2 0 0 [.ref 117, .int p1, .int p2, .int p3, .int p4, .int p5] am_G0 D (.inl (some (.int r))) am_G0 D := by
  refine am_C_of (by decide +kernel) (Nat.le_of_ble_eq_true rfl) ?_
  change am_S E mX12_turnedBy 2 0 0 (.inl (some (.int r))) am_G0 D 0 0 0 [(0, .ref 117), (1, .int p1), (2, .int p2), (3, .int p3), (4, .int p4), (5, .int p5)] [] am_G0 D
  unfold f_X12_turnedBy at hf
  refine am_iconst (v := (0 : Int32)) (am_dec tmX12_turnedBy 0 rfl) (by decide) ?_
  refine am_istore (lv' := [(0, .ref 117), (1, .int p1), (2, .int p2), (3, .int p3), (4, .int p4), (5, .int p5), (6, .int (0 : Int32))]) (am_dec tmX12_turnedBy 1 rfl) (by decide) rfl ?_
  refine am_iconst (v := (0 : Int32)) (am_dec tmX12_turnedBy 2 rfl) (by decide) ?_
  refine am_istore (lv' := [(0, .ref 117), (1, .int p1), (2, .int p2), (3, .int p3), (4, .int p4), (5, .int p5), (6, .int (0 : Int32)), (7, .int (0 : Int32))]) (am_dec tmX12_turnedBy 3 rfl) (by decide) rfl ?_
  obtain ⟨e8, g9, hf⟩ := am_bd hf
  refine am_pick [0, 1, 2, 3, 4, 5, 6, 7] rfl (l_X12_turnedBy_L6 hE (Nat.le_refl _) am_fu _ _ _ g9 (fun ex he => ?_))
  subst he
  refine am_iload (am_dec tmX12_turnedBy 26 rfl) rfl ?_
  have hf := Option.some.inj hf
  subst hf
  exact am_iret (am_dec tmX12_turnedBy 27 rfl) rfl (Nat.zero_le _) (Nat.zero_le _)
def f_X12_strengthOf (p1 : Int32) (p2 : Int32) (p3 : Int32) (p4 : Int32) (D : am_D) : Option (Int64) :=
    (f_X12_turnedBy p1 p2 p3 p4 (0 : Int32) D).bind fun x2 =>
    (f_X12_turnedBy p1 p2 p3 p4 (p2 / (4 : Int32)) D).bind fun x4 =>
    some (((Int32.toInt64 x2) * (Int32.toInt64 x2)) + ((Int32.toInt64 x4) * (Int32.toInt64 x4)))
set_option maxRecDepth 100000 in
set_option maxHeartbeats 4000000 in
theorem c_X12_strengthOf {E : am_E} (hE : am_EH E) {p1 : Int32} {p2 : Int32} {p3 : Int32} {p4 : Int32} {D : am_D} {r : Int64}  (hf : f_X12_strengthOf p1 p2 p3 p4 D = some r) : am_C E mX12_strengthOf 3 0 0 [.ref 117, .int p1, .int p2, .int p3, .int p4] am_G0 D (.inl (some (.long r))) am_G0 D := by
  refine am_C_of (by decide +kernel) (Nat.le_of_ble_eq_true rfl) ?_
  change am_S E mX12_strengthOf 3 0 0 (.inl (some (.long r))) am_G0 D 0 0 0 [(0, .ref 117), (1, .int p1), (2, .int p2), (3, .int p3), (4, .int p4)] [] am_G0 D
  unfold f_X12_strengthOf at hf
  refine am_aload_n (am_dec tmX12_strengthOf 0 rfl) rfl rfl ?_
  refine am_iload_n (am_dec tmX12_strengthOf 1 rfl) rfl rfl ?_
  refine am_iload_n (am_dec tmX12_strengthOf 2 rfl) rfl rfl ?_
  refine am_iload_n (am_dec tmX12_strengthOf 3 rfl) rfl rfl ?_
  refine am_iload (am_dec tmX12_strengthOf 4 rfl) rfl ?_
  refine am_iconst (v := (0 : Int32)) (am_dec tmX12_strengthOf 5 rfl) (by decide) ?_
  obtain ⟨x2, g1, hf⟩ := am_bd hf
  refine am_callV1 (As := [.int p1, .int p2, .int p3, .int p4, .int (0 : Int32)]) (st := []) hE (am_dec tmX12_strengthOf 6 rfl) ok_X12_turnedBy rfl lm_X12_354 in_X12_turnedBy se_X12_turnedBy sh_117 cf12 (c_X12_turnedBy hE g1) rfl (by decide) (Nat.le_of_ble_eq_true rfl) (Nat.zero_le _) (Nat.zero_le _) rfl ?_
  refine am_i2l (am_dec tmX12_strengthOf 7 rfl) ?_
  refine am_lstore (lv' := [(0, .ref 117), (1, .int p1), (2, .int p2), (3, .int p3), (4, .int p4), (5, .long (Int32.toInt64 x2))]) (am_dec tmX12_strengthOf 8 rfl) (by decide) rfl ?_
  refine am_aload_n (am_dec tmX12_strengthOf 9 rfl) rfl rfl ?_
  refine am_iload_n (am_dec tmX12_strengthOf 10 rfl) rfl rfl ?_
  refine am_iload_n (am_dec tmX12_strengthOf 11 rfl) rfl rfl ?_
  refine am_iload_n (am_dec tmX12_strengthOf 12 rfl) rfl rfl ?_
  refine am_iload (am_dec tmX12_strengthOf 13 rfl) rfl ?_
  refine am_iload_n (am_dec tmX12_strengthOf 14 rfl) rfl rfl ?_
  refine am_iconst (v := (4 : Int32)) (am_dec tmX12_strengthOf 15 rfl) (by decide) ?_
  refine am_idiv (am_dec tmX12_strengthOf 16 rfl) (by decide) ?_
  obtain ⟨x4, g3, hf⟩ := am_bd hf
  refine am_callV1 (As := [.int p1, .int p2, .int p3, .int p4, .int (p2 / (4 : Int32))]) (st := []) hE (am_dec tmX12_strengthOf 17 rfl) ok_X12_turnedBy rfl lm_X12_354 in_X12_turnedBy se_X12_turnedBy sh_117 cf12 (c_X12_turnedBy hE g3) rfl (by decide) (Nat.le_of_ble_eq_true rfl) (Nat.zero_le _) (Nat.zero_le _) rfl ?_
  refine am_i2l (am_dec tmX12_strengthOf 18 rfl) ?_
  refine am_lstore (lv' := [(0, .ref 117), (1, .int p1), (2, .int p2), (3, .int p3), (4, .int p4), (5, .long (Int32.toInt64 x2)), (7, .long (Int32.toInt64 x4))]) (am_dec tmX12_strengthOf 19 rfl) (by decide) rfl ?_
  refine am_lload (am_dec tmX12_strengthOf 20 rfl) rfl ?_
  refine am_lload (am_dec tmX12_strengthOf 21 rfl) rfl ?_
  refine am_lmul (am_dec tmX12_strengthOf 22 rfl) ?_
  refine am_lload (am_dec tmX12_strengthOf 23 rfl) rfl ?_
  refine am_lload (am_dec tmX12_strengthOf 24 rfl) rfl ?_
  refine am_lmul (am_dec tmX12_strengthOf 25 rfl) ?_
  refine am_ladd (am_dec tmX12_strengthOf 26 rfl) ?_
  have hf := Option.some.inj hf
  subst hf
  exact am_lret (am_dec tmX12_strengthOf 27 rfl) rfl (Nat.zero_le _) (Nat.zero_le _)
def f_X12_turned (p1 : Int32) (p2 : Int32) (p3 : Int32) (p4 : Int32) (p5 : Int32) (D : am_D) : Option ((Int64 × am_D)) :=
    (some (am_wI D 117 0 (0 : Int32))).bind fun D1 =>
    (f_X12_badRow p1 p3 p4 D1).bind fun x4 =>
    if x4.1 = 0 then
    (f_X12_in p2 (4 : Int32) (60 : Int32)).bind fun x7 =>
    (if x7 = 0 then
    some ((1 : Int32))
    else
    (f_X12_in p5 (0 : Int32) (3 : Int32)).bind fun x11 =>
    if x11 = 0 then
    some ((1 : Int32))
    else
    some ((0 : Int32))).bind fun w13 =>
    (f_X12_bad w13 (2 : Int32) x4.2).bind fun x15 =>
    if x15.1 = 0 then
    (f_X12_turnedBy p1 p2 p3 p4 (0 : Int32) x15.2).bind fun x18 =>
    (f_X12_turnedBy p1 p2 p3 p4 (p2 / (4 : Int32)) x15.2).bind fun x20 =>
    if p5 = 0 then
    some ((Int32.toInt64 x18), x15.2)
    else
    if p5 = (1 : Int32) then
    some ((Int32.toInt64 x20), x15.2)
    else
    if p5 = (2 : Int32) then
    (f_X12_strengthOf p1 p2 p3 p4 x15.2).bind fun x41 =>
    some (x41, x15.2)
    else
    (if 0 ≤ x20 then
    some ((0 : Int32))
    else
    some ((4 : Int32))).bind fun w26 =>
    (if 0 ≤ x18 then
    some ((0 : Int32))
    else
    some ((2 : Int32))).bind fun w29 =>
    (f_X12_amount x20).bind fun x31 =>
    (f_X12_amount x18).bind fun x33 =>
    (if x31 ≤ x33 then
    some ((0 : Int32))
    else
    some ((1 : Int32))).bind fun w36 =>
    some ((Int32.toInt64 ((w26 + w29) + w36)), x15.2)
    else
    some ((0 : Int64), x15.2)
    else
    some ((0 : Int64), x4.2)
set_option maxRecDepth 100000 in
set_option maxHeartbeats 4000000 in
theorem c_X12_turned {E : am_E} (hE : am_EH E) {p1 : Int32} {p2 : Int32} {p3 : Int32} {p4 : Int32} {p5 : Int32} {D : am_D} {r : (Int64 × am_D)}  (hf : f_X12_turned p1 p2 p3 p4 p5 D = some r) : am_C E mX12_turned 4 0 0 [.ref 117, .int p1, .int p2, .int p3, .int p4, .int p5] am_G0 D (.inl (some (.long r.1))) am_G0 r.2 := by
  refine am_C_of (by decide +kernel) (Nat.le_of_ble_eq_true rfl) ?_
  change am_S E mX12_turned 4 0 0 (.inl (some (.long r.1))) am_G0 r.2 0 0 0 [(0, .ref 117), (1, .int p1), (2, .int p2), (3, .int p3), (4, .int p4), (5, .int p5)] [] am_G0 D
  unfold f_X12_turned at hf
  refine am_aload_n (am_dec tmX12_turned_0 0 rfl) rfl rfl ?_
  refine am_iconst (v := (0 : Int32)) (am_dec tmX12_turned_0 1 rfl) (by decide) ?_
  obtain ⟨D1, g2, hf⟩ := am_bd hf
  refine am_putI2 (j := 0) hE (am_dec tmX12_turned_0 2 rfl) sh_117 cf12 (by decide) rfl lf_X12_110 rfl rfl rfl g2 ?_
  refine am_aload_n (am_dec tmX12_turned_0 3 rfl) rfl rfl ?_
  refine am_iload_n (am_dec tmX12_turned_0 4 rfl) rfl rfl ?_
  refine am_iload_n (am_dec tmX12_turned_0 5 rfl) rfl rfl ?_
  refine am_iload (am_dec tmX12_turned_0 6 rfl) rfl ?_
  obtain ⟨x4, g3, hf⟩ := am_bd hf
  refine am_callV1 (As := [.int p1, .int p3, .int p4]) (st := []) hE (am_dec tmX12_turned_0 7 rfl) ok_X12_badRow rfl lm_X12_348 in_X12_badRow se_X12_badRow sh_117 cf12 (c_X12_badRow hE g3) rfl (by decide) (Nat.le_of_ble_eq_true rfl) (Nat.zero_le _) (Nat.zero_le _) rfl ?_
  refine am_if_ne (tgt := 49) (am_dec tmX12_turned_0 8 rfl) (by decide) (fun c5 => ?_) (fun c5 => ?_)
  · rw [if_neg c5] at hf
    refine am_lconst (v := (0 : Int64)) (am_dec tmX12_turned_0 26 rfl) (by decide) ?_
    have hf := Option.some.inj hf
    subst hf
    exact am_lret (am_dec tmX12_turned_0 27 rfl) rfl (Nat.zero_le _) (Nat.zero_le _)
  · rw [if_pos c5] at hf
    refine am_aload_n (am_dec tmX12_turned_0 9 rfl) rfl rfl ?_
    refine am_iload_n (am_dec tmX12_turned_0 10 rfl) rfl rfl ?_
    refine am_iconst (v := (4 : Int32)) (am_dec tmX12_turned_0 11 rfl) (by decide) ?_
    refine am_bipush (v := (60 : Int32)) (am_dec tmX12_turned_0 12 rfl) (by decide) ?_
    obtain ⟨x7, g6, hf⟩ := am_bd hf
    refine am_callS1 (As := [.int p2, .int (4 : Int32), .int (60 : Int32)]) (st := [.ref 117]) (am_dec tmX12_turned_0 13 rfl) ok_X12_in rfl lm_X12_144 st_X12_in (c_X12_in hE g6) rfl (by decide) (Nat.le_of_ble_eq_true rfl) (Nat.zero_le _) (Nat.zero_le _) rfl ?_
    obtain ⟨w13, g42, hf⟩ := am_bd hf
    have key9 : am_S E mX12_turned 4 0 0 (.inl (some (.long r.1))) am_G0 r.2 0 0 42 [(0, .ref 117), (1, .int p1), (2, .int p2), (3, .int p3), (4, .int p4), (5, .int p5)] [.int w13, .ref 117] am_G0 x4.2 := by
      refine am_iconst (v := (2 : Int32)) (am_dec tmX12_turned_0 23 rfl) (by decide) ?_
      obtain ⟨x15, g14, hf⟩ := am_bd hf
      refine am_callV1 (As := [.int w13, .int (2 : Int32)]) (st := []) hE (am_dec tmX12_turned_0 24 rfl) ok_X12_bad rfl lm_X12_191 in_X12_bad se_X12_bad sh_117 cf12 (c_X12_bad hE g14) rfl (by decide) (Nat.le_of_ble_eq_true rfl) (Nat.zero_le _) (Nat.zero_le _) rfl ?_
      refine am_if_eq (tgt := 51) (am_dec tmX12_turned_0 25 rfl) (by decide) (fun c16 => ?_) (fun c16 => ?_)
      · rw [if_pos c16] at hf
        refine am_aload_n (am_dec tmX12_turned_0 28 rfl) rfl rfl ?_
        refine am_iload_n (am_dec tmX12_turned_0 29 rfl) rfl rfl ?_
        refine am_iload_n (am_dec tmX12_turned_0 30 rfl) rfl rfl ?_
        refine am_iload_n (am_dec tmX12_turned_0 31 rfl) rfl rfl ?_
        refine am_iload (am_dec tmX12_turned_0 32 rfl) rfl ?_
        refine am_iconst (v := (0 : Int32)) (am_dec tmX12_turned_0 33 rfl) (by decide) ?_
        obtain ⟨x18, g17, hf⟩ := am_bd hf
        refine am_callV1 (As := [.int p1, .int p2, .int p3, .int p4, .int (0 : Int32)]) (st := []) hE (am_dec tmX12_turned_0 34 rfl) ok_X12_turnedBy rfl lm_X12_354 in_X12_turnedBy se_X12_turnedBy sh_117 cf12 (c_X12_turnedBy hE g17) rfl (by decide) (Nat.le_of_ble_eq_true rfl) (Nat.zero_le _) (Nat.zero_le _) rfl ?_
        refine am_istore (lv' := [(0, .ref 117), (1, .int p1), (2, .int p2), (3, .int p3), (4, .int p4), (5, .int p5), (6, .int x18)]) (am_dec tmX12_turned_0 35 rfl) (by decide) rfl ?_
        refine am_aload_n (am_dec tmX12_turned_0 36 rfl) rfl rfl ?_
        refine am_iload_n (am_dec tmX12_turned_0 37 rfl) rfl rfl ?_
        refine am_iload_n (am_dec tmX12_turned_0 38 rfl) rfl rfl ?_
        refine am_iload_n (am_dec tmX12_turned_0 39 rfl) rfl rfl ?_
        refine am_iload (am_dec tmX12_turned_0 40 rfl) rfl ?_
        refine am_iload_n (am_dec tmX12_turned_0 41 rfl) rfl rfl ?_
        refine am_iconst (v := (4 : Int32)) (am_dec tmX12_turned_0 42 rfl) (by decide) ?_
        refine am_idiv (am_dec tmX12_turned_0 43 rfl) (by decide) ?_
        obtain ⟨x20, g19, hf⟩ := am_bd hf
        refine am_callV1 (As := [.int p1, .int p2, .int p3, .int p4, .int (p2 / (4 : Int32))]) (st := []) hE (am_dec tmX12_turned_0 44 rfl) ok_X12_turnedBy rfl lm_X12_354 in_X12_turnedBy se_X12_turnedBy sh_117 cf12 (c_X12_turnedBy hE g19) rfl (by decide) (Nat.le_of_ble_eq_true rfl) (Nat.zero_le _) (Nat.zero_le _) rfl ?_
        refine am_istore (lv' := [(0, .ref 117), (1, .int p1), (2, .int p2), (3, .int p3), (4, .int p4), (5, .int p5), (6, .int x18), (7, .int x20)]) (am_dec tmX12_turned_0 45 rfl) (by decide) rfl ?_
        refine am_iload (am_dec tmX12_turned_0 46 rfl) rfl ?_
        refine am_if_ne (tgt := 88) (am_dec tmX12_turned_0 47 rfl) (by decide) (fun c21 => ?_) (fun c21 => ?_)
        · rw [if_neg c21] at hf
          refine am_iload (am_dec tmX12_turned_0 51 rfl) rfl ?_
          refine am_iconst (v := (1 : Int32)) (am_dec tmX12_turned_0 52 rfl) (by decide) ?_
          refine am_icmp_ne (tgt := 100) (am_dec tmX12_turned_0 53 rfl) (by decide) (fun c22 => ?_) (fun c22 => ?_)
          · rw [if_neg c22] at hf
            refine am_iload (am_dec tmX12_turned_0 57 rfl) rfl ?_
            refine am_iconst (v := (2 : Int32)) (am_dec tmX12_turned_0 58 rfl) (by decide) ?_
            refine am_icmp_ne (tgt := 118) (am_dec tmX12_turned_0 59 rfl) (by decide) (fun c23 => ?_) (fun c23 => ?_)
            · rw [if_neg c23] at hf
              refine am_iload (am_dec tmX12_turned_1 7 rfl) rfl ?_
              obtain ⟨w26, g39, hf⟩ := am_bd hf
              have key25 : am_S E mX12_turned 4 0 0 (.inl (some (.long r.1))) am_G0 r.2 0 0 128 [(6, .int x18), (7, .int x20)] [.int w26] am_G0 x15.2 := by
                refine am_iload (am_dec tmX12_turned_1 12 rfl) rfl ?_
                obtain ⟨w29, g38, hf⟩ := am_bd hf
                have key28 : am_S E mX12_turned 4 0 0 (.inl (some (.long r.1))) am_G0 r.2 0 0 138 [(6, .int x18), (7, .int x20)] [.int w29, .int w26] am_G0 x15.2 := by
                  refine am_iadd (am_dec tmX12_turned_1 17 rfl) ?_
                  refine am_iload (am_dec tmX12_turned_1 18 rfl) rfl ?_
                  obtain ⟨x31, g30, hf⟩ := am_bd hf
                  refine am_callS1 (As := [.int x20]) (st := [.int (w26 + w29)]) (am_dec tmX12_turned_1 19 rfl) ok_X12_amount rfl lm_X12_281 st_X12_amount (c_X12_amount hE g30) rfl (by decide) (Nat.le_of_ble_eq_true rfl) (Nat.zero_le _) (Nat.zero_le _) rfl ?_
                  refine am_iload (am_dec tmX12_turned_1 20 rfl) rfl ?_
                  obtain ⟨x33, g32, hf⟩ := am_bd hf
                  refine am_callS1 (As := [.int x18]) (st := [.int x31, .int (w26 + w29)]) (am_dec tmX12_turned_1 21 rfl) ok_X12_amount rfl lm_X12_281 st_X12_amount (c_X12_amount hE g32) rfl (by decide) (Nat.le_of_ble_eq_true rfl) (Nat.zero_le _) (Nat.zero_le _) rfl ?_
                  obtain ⟨w36, g37, hf⟩ := am_bd hf
                  have key35 : am_S E mX12_turned 4 0 0 (.inl (some (.long r.1))) am_G0 r.2 0 0 157 [] [.int w36, .int (w26 + w29)] am_G0 x15.2 := by
                    refine am_iadd (am_dec tmX12_turned_1 26 rfl) ?_
                    refine am_i2l (am_dec tmX12_turned_1 27 rfl) ?_
                    have hf := Option.some.inj hf
                    subst hf
                    exact am_lret (am_dec tmX12_turned_1 28 rfl) rfl (Nat.zero_le _) (Nat.zero_le _)
                  replace hf := g37
                  refine am_icmp_le (tgt := 156) (am_dec tmX12_turned_1 22 rfl) (by decide) (fun c34 => ?_) (fun c34 => ?_)
                  · rw [if_pos c34] at hf
                    refine am_iconst (v := (0 : Int32)) (am_dec tmX12_turned_1 25 rfl) (by decide) ?_
                    have hf := Option.some.inj hf
                    subst hf
                    exact am_pick [] rfl key35
                  · rw [if_neg c34] at hf
                    refine am_iconst (v := (1 : Int32)) (am_dec tmX12_turned_1 23 rfl) (by decide) ?_
                    refine am_goto (tgt := 157) (am_dec tmX12_turned_1 24 rfl) (by decide) ?_
                    have hf := Option.some.inj hf
                    subst hf
                    exact am_pick [] rfl key35
                replace hf := g38
                refine am_if_ge (tgt := 137) (am_dec tmX12_turned_1 13 rfl) (by decide) (fun c27 => ?_) (fun c27 => ?_)
                · rw [if_pos c27] at hf
                  refine am_iconst (v := (0 : Int32)) (am_dec tmX12_turned_1 16 rfl) (by decide) ?_
                  have hf := Option.some.inj hf
                  subst hf
                  exact am_pick [0, 1] rfl key28
                · rw [if_neg c27] at hf
                  refine am_iconst (v := (2 : Int32)) (am_dec tmX12_turned_1 14 rfl) (by decide) ?_
                  refine am_goto (tgt := 138) (am_dec tmX12_turned_1 15 rfl) (by decide) ?_
                  have hf := Option.some.inj hf
                  subst hf
                  exact am_pick [0, 1] rfl key28
              replace hf := g39
              refine am_if_ge (tgt := 127) (am_dec tmX12_turned_1 8 rfl) (by decide) (fun c24 => ?_) (fun c24 => ?_)
              · rw [if_pos c24] at hf
                refine am_iconst (v := (0 : Int32)) (am_dec tmX12_turned_1 11 rfl) (by decide) ?_
                have hf := Option.some.inj hf
                subst hf
                exact am_pick [6, 7] rfl key25
              · rw [if_neg c24] at hf
                refine am_iconst (v := (4 : Int32)) (am_dec tmX12_turned_1 9 rfl) (by decide) ?_
                refine am_goto (tgt := 128) (am_dec tmX12_turned_1 10 rfl) (by decide) ?_
                have hf := Option.some.inj hf
                subst hf
                exact am_pick [6, 7] rfl key25
            · rw [if_pos c23] at hf
              refine am_aload_n (am_dec tmX12_turned_1 0 rfl) rfl rfl ?_
              refine am_iload_n (am_dec tmX12_turned_1 1 rfl) rfl rfl ?_
              refine am_iload_n (am_dec tmX12_turned_1 2 rfl) rfl rfl ?_
              refine am_iload_n (am_dec tmX12_turned_1 3 rfl) rfl rfl ?_
              refine am_iload (am_dec tmX12_turned_1 4 rfl) rfl ?_
              obtain ⟨x41, g40, hf⟩ := am_bd hf
              refine am_callV1 (As := [.int p1, .int p2, .int p3, .int p4]) (st := []) hE (am_dec tmX12_turned_1 5 rfl) ok_X12_strengthOf rfl lm_X12_357 in_X12_strengthOf se_X12_strengthOf sh_117 cf12 (c_X12_strengthOf hE g40) rfl (by decide) (Nat.le_of_ble_eq_true rfl) (Nat.zero_le _) (Nat.zero_le _) rfl ?_
              refine am_goto (tgt := 159) (am_dec tmX12_turned_1 6 rfl) (by decide) ?_
              have hf := Option.some.inj hf
              subst hf
              exact am_lret (am_dec tmX12_turned_1 28 rfl) rfl (Nat.zero_le _) (Nat.zero_le _)
          · rw [if_pos c22] at hf
            refine am_iload (am_dec tmX12_turned_0 54 rfl) rfl ?_
            refine am_i2l (am_dec tmX12_turned_0 55 rfl) ?_
            refine am_goto (tgt := 159) (am_dec tmX12_turned_0 56 rfl) (by decide) ?_
            have hf := Option.some.inj hf
            subst hf
            exact am_lret (am_dec tmX12_turned_1 28 rfl) rfl (Nat.zero_le _) (Nat.zero_le _)
        · rw [if_pos c21] at hf
          refine am_iload (am_dec tmX12_turned_0 48 rfl) rfl ?_
          refine am_i2l (am_dec tmX12_turned_0 49 rfl) ?_
          refine am_goto (tgt := 159) (am_dec tmX12_turned_0 50 rfl) (by decide) ?_
          have hf := Option.some.inj hf
          subst hf
          exact am_lret (am_dec tmX12_turned_1 28 rfl) rfl (Nat.zero_le _) (Nat.zero_le _)
      · rw [if_neg c16] at hf
        refine am_lconst (v := (0 : Int64)) (am_dec tmX12_turned_0 26 rfl) (by decide) ?_
        have hf := Option.some.inj hf
        subst hf
        exact am_lret (am_dec tmX12_turned_0 27 rfl) rfl (Nat.zero_le _) (Nat.zero_le _)
    replace hf := g42
    refine am_if_eq (tgt := 37) (am_dec tmX12_turned_0 14 rfl) (by decide) (fun c8 => ?_) (fun c8 => ?_)
    · rw [if_pos c8] at hf
      refine am_iconst (v := (1 : Int32)) (am_dec tmX12_turned_0 20 rfl) (by decide) ?_
      refine am_goto (tgt := 42) (am_dec tmX12_turned_0 21 rfl) (by decide) ?_
      have hf := Option.some.inj hf
      subst hf
      exact am_pick [0, 1, 2, 3, 4, 5] rfl key9
    · rw [if_neg c8] at hf
      refine am_iload (am_dec tmX12_turned_0 15 rfl) rfl ?_
      refine am_iconst (v := (0 : Int32)) (am_dec tmX12_turned_0 16 rfl) (by decide) ?_
      refine am_iconst (v := (3 : Int32)) (am_dec tmX12_turned_0 17 rfl) (by decide) ?_
      obtain ⟨x11, g10, hf⟩ := am_bd hf
      refine am_callS1 (As := [.int p5, .int (0 : Int32), .int (3 : Int32)]) (st := [.ref 117]) (am_dec tmX12_turned_0 18 rfl) ok_X12_in rfl lm_X12_144 st_X12_in (c_X12_in hE g10) rfl (by decide) (Nat.le_of_ble_eq_true rfl) (Nat.zero_le _) (Nat.zero_le _) rfl ?_
      refine am_if_ne (tgt := 41) (am_dec tmX12_turned_0 19 rfl) (by decide) (fun c12 => ?_) (fun c12 => ?_)
      · rw [if_neg c12] at hf
        refine am_iconst (v := (0 : Int32)) (am_dec tmX12_turned_0 22 rfl) (by decide) ?_
        have hf := Option.some.inj hf
        subst hf
        exact am_pick [0, 1, 2, 3, 4, 5] rfl key9
      · rw [if_pos c12] at hf
        refine am_iconst (v := (1 : Int32)) (am_dec tmX12_turned_0 20 rfl) (by decide) ?_
        refine am_goto (tgt := 42) (am_dec tmX12_turned_0 21 rfl) (by decide) ?_
        have hf := Option.some.inj hf
        subst hf
        exact am_pick [0, 1, 2, 3, 4, 5] rfl key9
def f_X12_loudest_L6 (q0 : Nat) (q1 : Int32) (q2 : Int32) (q3 : Int32) (D : am_D) : Nat → Int32 → Int32 → Option (Int32)
  | 0, _, _ => none
  | n + 1, v4, v5 =>
    if (q2 + q3) ≤ v5 then
    some (v4)
    else
    if q1 ≤ v5 then
    some (v4)
    else
    (am_gI D q0 (am_ln q0) v5).bind fun x3 =>
    (f_X12_amount x3).bind fun x6 =>
    (f_X12_more v4 x6).bind fun x8 =>
    f_X12_loudest_L6 q0 q1 q2 q3 D n x8 (v5 + (1 : Int32))
def f_X12_loudest (p0 : Nat) (p1 : Int32) (p2 : Int32) (p3 : Int32) (D : am_D) : Option (Int32) :=
    (f_X12_loudest_L6 p0 p1 p2 p3 D am_fu (0 : Int32) p2).bind fun e9 =>
    some e9
set_option maxRecDepth 100000 in
set_option maxHeartbeats 4000000 in
theorem l_X12_loudest_L6 {E : am_E} (hE : am_EH E) {d mc ms : Nat} {o : am_O} {G2 : am_G} {D2 : am_D} (hdp : 2 ≤ d) {q0 : Nat} {q1 : Int32} {q2 : Int32} {q3 : Int32} {D : am_D} (h_q0 : am_sh am_G0 q0 = some (20, am_ln q0)) : ∀ (n : Nat) (v4 : Int32) (v5 : Int32) (ex0 : Int32), f_X12_loudest_L6 q0 q1 q2 q3 D n v4 v5 = some ex0 → (∀ ex : Int32, ex0 = ex → am_S E mX12_loudest d mc ms o G2 D2 0 0 40 [(4, .int ex)] [] am_G0 D) → am_S E mX12_loudest d mc ms o G2 D2 0 0 6 [(0, .ref q0), (1, .int q1), (2, .int q2), (3, .int q3), (4, .int v4), (5, .int v5)] [] am_G0 D
  | 0, _, _, _, hf, _ => by
    unfold f_X12_loudest_L6 at hf
    cases hf
  | n + 1, v4, v5, ex0, hf, hk0 => by
    unfold f_X12_loudest_L6 at hf
    refine am_iload (am_dec tmX12_loudest 4 rfl) rfl ?_
    refine am_iload_n (am_dec tmX12_loudest 5 rfl) rfl rfl ?_
    refine am_iload_n (am_dec tmX12_loudest 6 rfl) rfl rfl ?_
    refine am_iadd (am_dec tmX12_loudest 7 rfl) ?_
    refine am_icmp_ge (tgt := 40) (am_dec tmX12_loudest 8 rfl) (by decide) (fun c1 => ?_) (fun c1 => ?_)
    · rw [if_pos c1] at hf
      have hf := Option.some.inj hf
      subst hf
      exact am_pick [4] rfl (hk0 _ rfl)
    · rw [if_neg c1] at hf
      refine am_iload (am_dec tmX12_loudest 9 rfl) rfl ?_
      refine am_iload_n (am_dec tmX12_loudest 10 rfl) rfl rfl ?_
      refine am_icmp_ge (tgt := 40) (am_dec tmX12_loudest 11 rfl) (by decide) (fun c2 => ?_) (fun c2 => ?_)
      · rw [if_pos c2] at hf
        have hf := Option.some.inj hf
        subst hf
        exact am_pick [4] rfl (hk0 _ rfl)
      · rw [if_neg c2] at hf
        refine am_iload (am_dec tmX12_loudest 12 rfl) rfl ?_
        refine am_aload_n (am_dec tmX12_loudest 13 rfl) rfl rfl ?_
        refine am_iload (am_dec tmX12_loudest 14 rfl) rfl ?_
        obtain ⟨x3, g4, hf⟩ := am_bd hf
        refine am_iald2 hE (am_dec tmX12_loudest 15 rfl) h_q0 g4 ?_
        obtain ⟨x6, g5, hf⟩ := am_bd hf
        refine am_callS1 (As := [.int x3]) (st := [.int v4]) (am_dec tmX12_loudest 16 rfl) ok_X12_amount rfl lm_X12_281 st_X12_amount (c_X12_amount hE g5) rfl (Nat.lt_of_lt_of_le (by decide) hdp) (Nat.le_of_ble_eq_true rfl) (Nat.zero_le _) (Nat.zero_le _) rfl ?_
        obtain ⟨x8, g7, hf⟩ := am_bd hf
        refine am_callS1 (As := [.int v4, .int x6]) (st := []) (am_dec tmX12_loudest 17 rfl) ok_X12_more rfl lm_X12_306 st_X12_more (c_X12_more hE g7) rfl (Nat.lt_of_lt_of_le (by decide) hdp) (Nat.le_of_ble_eq_true rfl) (Nat.zero_le _) (Nat.zero_le _) rfl ?_
        refine am_istore (lv' := [(0, .ref q0), (1, .int q1), (2, .int q2), (3, .int q3), (4, .int x8), (5, .int v5)]) (am_dec tmX12_loudest 18 rfl) (by decide) rfl ?_
        refine am_iinc (v := (1 : Int32)) (lv' := [(0, .ref q0), (1, .int q1), (2, .int q2), (3, .int q3), (4, .int x8), (5, .int (v5 + (1 : Int32)))]) (am_dec tmX12_loudest 19 rfl) rfl (by decide) (by decide) rfl ?_
        refine am_goto (tgt := 6) (am_dec tmX12_loudest 20 rfl) (by decide) ?_
        exact am_pick [0, 1, 2, 3, 4, 5] rfl (l_X12_loudest_L6 hE hdp h_q0 n x8 (v5 + (1 : Int32)) ex0 hf hk0)
set_option maxRecDepth 100000 in
set_option maxHeartbeats 4000000 in
theorem c_X12_loudest {E : am_E} (hE : am_EH E) {p0 : Nat} {p1 : Int32} {p2 : Int32} {p3 : Int32} {D : am_D} {r : Int32} (h_p0 : am_sh am_G0 p0 = some (20, am_ln p0)) (hf : f_X12_loudest p0 p1 p2 p3 D = some r) : am_C E mX12_loudest 2 0 0 [.ref p0, .int p1, .int p2, .int p3] am_G0 D (.inl (some (.int r))) am_G0 D := by
  refine am_C_of (by decide +kernel) (Nat.le_of_ble_eq_true rfl) ?_
  change am_S E mX12_loudest 2 0 0 (.inl (some (.int r))) am_G0 D 0 0 0 [(0, .ref p0), (1, .int p1), (2, .int p2), (3, .int p3)] [] am_G0 D
  unfold f_X12_loudest at hf
  refine am_iconst (v := (0 : Int32)) (am_dec tmX12_loudest 0 rfl) (by decide) ?_
  refine am_istore (lv' := [(0, .ref p0), (1, .int p1), (2, .int p2), (3, .int p3), (4, .int (0 : Int32))]) (am_dec tmX12_loudest 1 rfl) (by decide) rfl ?_
  refine am_iload_n (am_dec tmX12_loudest 2 rfl) rfl rfl ?_
  refine am_istore (lv' := [(0, .ref p0), (1, .int p1), (2, .int p2), (3, .int p3), (4, .int (0 : Int32)), (5, .int p2)]) (am_dec tmX12_loudest 3 rfl) (by decide) rfl ?_
  obtain ⟨e9, g10, hf⟩ := am_bd hf
  refine am_pick [0, 1, 2, 3, 4, 5] rfl (l_X12_loudest_L6 hE (Nat.le_refl _) h_p0 am_fu _ _ _ g10 (fun ex he => ?_))
  subst he
  refine am_iload (am_dec tmX12_loudest 21 rfl) rfl ?_
  have hf := Option.some.inj hf
  subst hf
  exact am_iret (am_dec tmX12_loudest 22 rfl) rfl (Nat.zero_le _) (Nat.zero_le _)
def f_X12_sing_L104 (q1 : Int32) (q3 : Int32) (q4 : Int32) : Nat → Int32 → am_D → Option (am_D)
  | 0, _, _ => none
  | n + 1, v5, D =>
    if (D.1 117 38) ≤ v5 then
    some (D)
    else
    (am_gA 5 q1).bind fun j38 =>
    (am_gI D 139 5 q1).bind fun x40 =>
    (f_X12_placeNow v5 D).bind fun x43 =>
    (am_dv x43 q4).bind fun x44 =>
    (f_X12_loudest (134 + j38) x40 (x44 * q4) q4 D).bind fun x47 =>
    (f_X12_wave v5 q3 x47).bind fun x49 =>
    (am_pI D 222 1200 v5 x49).bind fun D50 =>
    f_X12_sing_L104 q1 q3 q4 n (v5 + (1 : Int32)) D50
def f_X12_sing (p1 : Int32) (p2 : Int32) (p3 : Int32) (p4 : Int32) (D : am_D) : Option ((Int32 × am_D)) :=
    (some (am_wI D 117 0 (0 : Int32))).bind fun D1 =>
    (f_X12_badBoth p1 p2 D1).bind fun x4 =>
    if x4.1 = 0 then
    (f_X12_in p3 (4 : Int32) (60 : Int32)).bind fun x7 =>
    (if x7 = 0 then
    some ((1 : Int32))
    else
    (f_X12_in p4 (8 : Int32) (60 : Int32)).bind fun x11 =>
    if x11 = 0 then
    some ((1 : Int32))
    else
    some ((0 : Int32))).bind fun w13 =>
    (f_X12_bad w13 (3 : Int32) x4.2).bind fun x15 =>
    if x15.1 = 0 then
    (am_gI x15.2 139 5 p1).bind fun x17 =>
    (f_X12_lastOf p2 x15.2).bind fun x20 =>
    (if x20 ≤ x17 then
    some ((0 : Int32))
    else
    some ((1 : Int32))).bind fun w23 =>
    (f_X12_bad w23 (4 : Int32) x15.2).bind fun x25 =>
    if x25.1 = 0 then
    (f_X12_takes p2 x25.2).bind fun x28 =>
    (f_X12_lengthNow x28).bind fun x30 =>
    (some (am_wI x28 117 38 x30)).bind fun D31 =>
    (some (am_wI D31 117 39 (0 : Int32))).bind fun D33 =>
    (some (am_wI D33 117 40 (0 : Int32))).bind fun D35 =>
    (f_X12_sing_L104 p1 p3 p4 am_fu (0 : Int32) D35).bind fun e52 =>
    some ((e52.1 117 38), e52)
    else
    some ((0 : Int32), x25.2)
    else
    some ((0 : Int32), x15.2)
    else
    some ((0 : Int32), x4.2)
set_option maxRecDepth 100000 in
set_option maxHeartbeats 4000000 in
theorem l_X12_sing_L104 {E : am_E} (hE : am_EH E) {d mc ms : Nat} {o : am_O} {G2 : am_G} {D2 : am_D} (hdp : 4 ≤ d) {q1 : Int32} {q3 : Int32} {q4 : Int32}  : ∀ (n : Nat) (v5 : Int32) (D : am_D) (ex0 : am_D), f_X12_sing_L104 q1 q3 q4 n v5 D = some ex0 → (∀ ex : am_D, ex0 = ex → am_S E mX12_sing d mc ms o G2 D2 0 0 161 [(0, .ref 117)] [] am_G0 ex) → am_S E mX12_sing d mc ms o G2 D2 0 0 104 [(0, .ref 117), (1, .int q1), (3, .int q3), (4, .int q4), (5, .int v5)] [] am_G0 D
  | 0, _, _, _, hf, _ => by
    unfold f_X12_sing_L104 at hf
    cases hf
  | n + 1, v5, D, ex0, hf, hk0 => by
    unfold f_X12_sing_L104 at hf
    refine am_iload (am_dec tmX12_sing_0 57 rfl) rfl ?_
    refine am_aload_n (am_dec tmX12_sing_0 58 rfl) rfl rfl ?_
    refine am_getI (j := 38) hE (am_dec tmX12_sing_0 59 rfl) sh_117 cf12 (by decide) rfl lf_X12_262 ?_
    refine am_icmp_ge (tgt := 161) (am_dec tmX12_sing_1 0 rfl) (by decide) (fun c37 => ?_) (fun c37 => ?_)
    · rw [if_pos c37] at hf
      have hf := Option.some.inj hf
      subst hf
      exact am_pick [0] rfl (hk0 _ rfl)
    · rw [if_neg c37] at hf
      refine am_aload_n (am_dec tmX12_sing_1 1 rfl) rfl rfl ?_
      refine am_getR (j := 34) hE (am_dec tmX12_sing_1 2 rfl) sh_117 cf12 (by decide) rfl lf_X12_73 rf_117_34 ?_
      refine am_iload (am_dec tmX12_sing_1 3 rfl) rfl ?_
      refine am_iload (am_dec tmX12_sing_1 4 rfl) rfl ?_
      refine am_iload_n (am_dec tmX12_sing_1 5 rfl) rfl rfl ?_
      refine am_aload_n (am_dec tmX12_sing_1 6 rfl) rfl rfl ?_
      refine am_getR (j := 24) hE (am_dec tmX12_sing_1 7 rfl) sh_117 cf12 (by decide) rfl lf_X12_43 rf_117_24 ?_
      refine am_iload_n (am_dec tmX12_sing_1 8 rfl) rfl rfl ?_
      obtain ⟨j38, g39, hf⟩ := am_bd hf
      have hj_j38 := (am_gA_lt g39).1
      refine am_aald2 (t := 6) hE (am_dec tmX12_sing_1 9 rfl) sh_133 (by decide) rfl rfl g39 (rr_133 hj_j38) ?_
      refine am_aload_n (am_dec tmX12_sing_1 10 rfl) rfl rfl ?_
      refine am_getR (j := 25) hE (am_dec tmX12_sing_1 11 rfl) sh_117 cf12 (by decide) rfl lf_X12_46 rf_117_25 ?_
      refine am_iload_n (am_dec tmX12_sing_1 12 rfl) rfl rfl ?_
      obtain ⟨x40, g41, hf⟩ := am_bd hf
      refine am_iald2 hE (am_dec tmX12_sing_1 13 rfl) sh_139 g41 ?_
      refine am_aload_n (am_dec tmX12_sing_1 14 rfl) rfl rfl ?_
      refine am_iload (am_dec tmX12_sing_1 15 rfl) rfl ?_
      obtain ⟨x43, g42, hf⟩ := am_bd hf
      refine am_callV1 (As := [.int v5]) (st := [.int x40, .ref (134 + j38), .int q3, .int v5, .int v5, .ref 222]) hE (am_dec tmX12_sing_1 16 rfl) ok_X12_placeNow rfl lm_X12_226 in_X12_placeNow se_X12_placeNow sh_117 cf12 (c_X12_placeNow hE g42) rfl (Nat.lt_of_lt_of_le (by decide) hdp) (Nat.le_of_ble_eq_true rfl) (Nat.zero_le _) (Nat.zero_le _) rfl ?_
      refine am_iload (am_dec tmX12_sing_1 17 rfl) rfl ?_
      obtain ⟨x44, g45, hf⟩ := am_bd hf
      refine am_idiv2 (am_dec tmX12_sing_1 18 rfl) g45 ?_
      refine am_iload (am_dec tmX12_sing_1 19 rfl) rfl ?_
      refine am_imul (am_dec tmX12_sing_1 20 rfl) ?_
      refine am_iload (am_dec tmX12_sing_1 21 rfl) rfl ?_
      obtain ⟨x47, g46, hf⟩ := am_bd hf
      refine am_callS1 (As := [.ref (134 + j38), .int x40, .int (x44 * q4), .int q4]) (st := [.int q3, .int v5, .int v5, .ref 222]) (am_dec tmX12_sing_1 22 rfl) ok_X12_loudest rfl lm_X12_361 st_X12_loudest (c_X12_loudest hE (am_shl (sa_133_0 hj_j38)) g46) rfl (Nat.lt_of_lt_of_le (by decide) hdp) (Nat.le_of_ble_eq_true rfl) (Nat.zero_le _) (Nat.zero_le _) rfl ?_
      obtain ⟨x49, g48, hf⟩ := am_bd hf
      refine am_callS1 (As := [.int v5, .int q3, .int x47]) (st := [.int v5, .ref 222]) (am_dec tmX12_sing_1 23 rfl) ok_X12_wave rfl lm_X12_183 st_X12_wave (c_X12_wave hE g48) rfl (Nat.lt_of_lt_of_le (by decide) hdp) (Nat.le_of_ble_eq_true rfl) (Nat.zero_le _) (Nat.zero_le _) rfl ?_
      obtain ⟨D50, g51, hf⟩ := am_bd hf
      refine am_iast2 hE (am_dec tmX12_sing_1 24 rfl) sh_222 g51 ?_
      refine am_iinc (v := (1 : Int32)) (lv' := [(0, .ref 117), (1, .int q1), (3, .int q3), (4, .int q4), (5, .int (v5 + (1 : Int32)))]) (am_dec tmX12_sing_1 25 rfl) rfl (by decide) (by decide) rfl ?_
      refine am_goto (tgt := 104) (am_dec tmX12_sing_1 26 rfl) (by decide) ?_
      exact am_pick [0, 1, 2, 3, 4] rfl (l_X12_sing_L104 hE hdp n (v5 + (1 : Int32)) D50 ex0 hf hk0)
set_option maxRecDepth 100000 in
set_option maxHeartbeats 4000000 in
theorem c_X12_sing {E : am_E} (hE : am_EH E) {p1 : Int32} {p2 : Int32} {p3 : Int32} {p4 : Int32} {D : am_D} {r : (Int32 × am_D)}  (hf : f_X12_sing p1 p2 p3 p4 D = some r) : am_C E mX12_sing 4 0 0 [.ref 117, .int p1, .int p2, .int p3, .int p4] am_G0 D (.inl (some (.int r.1))) am_G0 r.2 := by
  refine am_C_of (by decide +kernel) (Nat.le_of_ble_eq_true rfl) ?_
  change am_S E mX12_sing 4 0 0 (.inl (some (.int r.1))) am_G0 r.2 0 0 0 [(0, .ref 117), (1, .int p1), (2, .int p2), (3, .int p3), (4, .int p4)] [] am_G0 D
  unfold f_X12_sing at hf
  refine am_aload_n (am_dec tmX12_sing_0 0 rfl) rfl rfl ?_
  refine am_iconst (v := (0 : Int32)) (am_dec tmX12_sing_0 1 rfl) (by decide) ?_
  obtain ⟨D1, g2, hf⟩ := am_bd hf
  refine am_putI2 (j := 0) hE (am_dec tmX12_sing_0 2 rfl) sh_117 cf12 (by decide) rfl lf_X12_110 rfl rfl rfl g2 ?_
  refine am_aload_n (am_dec tmX12_sing_0 3 rfl) rfl rfl ?_
  refine am_iload_n (am_dec tmX12_sing_0 4 rfl) rfl rfl ?_
  refine am_iload_n (am_dec tmX12_sing_0 5 rfl) rfl rfl ?_
  obtain ⟨x4, g3, hf⟩ := am_bd hf
  refine am_callV1 (As := [.int p1, .int p2]) (st := []) hE (am_dec tmX12_sing_0 6 rfl) ok_X12_badBoth rfl lm_X12_296 in_X12_badBoth se_X12_badBoth sh_117 cf12 (c_X12_badBoth hE g3) rfl (by decide) (Nat.le_of_ble_eq_true rfl) (Nat.zero_le _) (Nat.zero_le _) rfl ?_
  refine am_if_ne (tgt := 76) (am_dec tmX12_sing_0 7 rfl) (by decide) (fun c5 => ?_) (fun c5 => ?_)
  · rw [if_neg c5] at hf
    refine am_iconst (v := (0 : Int32)) (am_dec tmX12_sing_0 40 rfl) (by decide) ?_
    have hf := Option.some.inj hf
    subst hf
    exact am_iret (am_dec tmX12_sing_0 41 rfl) rfl (Nat.zero_le _) (Nat.zero_le _)
  · rw [if_pos c5] at hf
    refine am_aload_n (am_dec tmX12_sing_0 8 rfl) rfl rfl ?_
    refine am_iload_n (am_dec tmX12_sing_0 9 rfl) rfl rfl ?_
    refine am_iconst (v := (4 : Int32)) (am_dec tmX12_sing_0 10 rfl) (by decide) ?_
    refine am_bipush (v := (60 : Int32)) (am_dec tmX12_sing_0 11 rfl) (by decide) ?_
    obtain ⟨x7, g6, hf⟩ := am_bd hf
    refine am_callS1 (As := [.int p3, .int (4 : Int32), .int (60 : Int32)]) (st := [.ref 117]) (am_dec tmX12_sing_0 12 rfl) ok_X12_in rfl lm_X12_144 st_X12_in (c_X12_in hE g6) rfl (by decide) (Nat.le_of_ble_eq_true rfl) (Nat.zero_le _) (Nat.zero_le _) rfl ?_
    obtain ⟨w13, g55, hf⟩ := am_bd hf
    have key9 : am_S E mX12_sing 4 0 0 (.inl (some (.int r.1))) am_G0 r.2 0 0 42 [(0, .ref 117), (1, .int p1), (2, .int p2), (3, .int p3), (4, .int p4)] [.int w13, .ref 117] am_G0 x4.2 := by
      refine am_iconst (v := (3 : Int32)) (am_dec tmX12_sing_0 22 rfl) (by decide) ?_
      obtain ⟨x15, g14, hf⟩ := am_bd hf
      refine am_callV1 (As := [.int w13, .int (3 : Int32)]) (st := []) hE (am_dec tmX12_sing_0 23 rfl) ok_X12_bad rfl lm_X12_191 in_X12_bad se_X12_bad sh_117 cf12 (c_X12_bad hE g14) rfl (by decide) (Nat.le_of_ble_eq_true rfl) (Nat.zero_le _) (Nat.zero_le _) rfl ?_
      refine am_if_ne (tgt := 76) (am_dec tmX12_sing_0 24 rfl) (by decide) (fun c16 => ?_) (fun c16 => ?_)
      · rw [if_neg c16] at hf
        refine am_iconst (v := (0 : Int32)) (am_dec tmX12_sing_0 40 rfl) (by decide) ?_
        have hf := Option.some.inj hf
        subst hf
        exact am_iret (am_dec tmX12_sing_0 41 rfl) rfl (Nat.zero_le _) (Nat.zero_le _)
      · rw [if_pos c16] at hf
        refine am_aload_n (am_dec tmX12_sing_0 25 rfl) rfl rfl ?_
        refine am_aload_n (am_dec tmX12_sing_0 26 rfl) rfl rfl ?_
        refine am_getR (j := 25) hE (am_dec tmX12_sing_0 27 rfl) sh_117 cf12 (by decide) rfl lf_X12_46 rf_117_25 ?_
        refine am_iload_n (am_dec tmX12_sing_0 28 rfl) rfl rfl ?_
        obtain ⟨x17, g18, hf⟩ := am_bd hf
        refine am_iald2 hE (am_dec tmX12_sing_0 29 rfl) sh_139 g18 ?_
        refine am_aload_n (am_dec tmX12_sing_0 30 rfl) rfl rfl ?_
        refine am_iload_n (am_dec tmX12_sing_0 31 rfl) rfl rfl ?_
        obtain ⟨x20, g19, hf⟩ := am_bd hf
        refine am_callV1 (As := [.int p2]) (st := [.int x17, .ref 117]) hE (am_dec tmX12_sing_0 32 rfl) ok_X12_lastOf rfl lm_X12_235 in_X12_lastOf se_X12_lastOf sh_117 cf12 (c_X12_lastOf hE g19) rfl (by decide) (Nat.le_of_ble_eq_true rfl) (Nat.zero_le _) (Nat.zero_le _) rfl ?_
        obtain ⟨w23, g54, hf⟩ := am_bd hf
        have key22 : am_S E mX12_sing 4 0 0 (.inl (some (.int r.1))) am_G0 r.2 0 0 69 [(0, .ref 117), (1, .int p1), (2, .int p2), (3, .int p3), (4, .int p4)] [.int w23, .ref 117] am_G0 x15.2 := by
          refine am_iconst (v := (4 : Int32)) (am_dec tmX12_sing_0 37 rfl) (by decide) ?_
          obtain ⟨x25, g24, hf⟩ := am_bd hf
          refine am_callV1 (As := [.int w23, .int (4 : Int32)]) (st := []) hE (am_dec tmX12_sing_0 38 rfl) ok_X12_bad rfl lm_X12_191 in_X12_bad se_X12_bad sh_117 cf12 (c_X12_bad hE g24) rfl (by decide) (Nat.le_of_ble_eq_true rfl) (Nat.zero_le _) (Nat.zero_le _) rfl ?_
          refine am_if_eq (tgt := 78) (am_dec tmX12_sing_0 39 rfl) (by decide) (fun c26 => ?_) (fun c26 => ?_)
          · rw [if_pos c26] at hf
            refine am_aload_n (am_dec tmX12_sing_0 42 rfl) rfl rfl ?_
            refine am_iload_n (am_dec tmX12_sing_0 43 rfl) rfl rfl ?_
            obtain ⟨x28, g27, hf⟩ := am_bd hf
            refine am_callV0 (As := [.int p2]) (st := []) hE (am_dec tmX12_sing_0 44 rfl) ok_X12_takes rfl lm_X12_241 in_X12_takes se_X12_takes sh_117 cf12 (c_X12_takes hE g27) rfl (by decide) (Nat.le_of_ble_eq_true rfl) (Nat.zero_le _) (Nat.zero_le _) rfl ?_
            refine am_aload_n (am_dec tmX12_sing_0 45 rfl) rfl rfl ?_
            refine am_aload_n (am_dec tmX12_sing_0 46 rfl) rfl rfl ?_
            obtain ⟨x30, g29, hf⟩ := am_bd hf
            refine am_callV1 (As := []) (st := [.ref 117]) hE (am_dec tmX12_sing_0 47 rfl) ok_X12_lengthNow rfl lm_X12_223 in_X12_lengthNow se_X12_lengthNow sh_117 cf12 (c_X12_lengthNow hE g29) rfl (by decide) (Nat.le_of_ble_eq_true rfl) (Nat.zero_le _) (Nat.zero_le _) rfl ?_
            obtain ⟨D31, g32, hf⟩ := am_bd hf
            refine am_putI2 (j := 38) hE (am_dec tmX12_sing_0 48 rfl) sh_117 cf12 (by decide) rfl lf_X12_262 rfl rfl rfl g32 ?_
            refine am_aload_n (am_dec tmX12_sing_0 49 rfl) rfl rfl ?_
            refine am_iconst (v := (0 : Int32)) (am_dec tmX12_sing_0 50 rfl) (by decide) ?_
            obtain ⟨D33, g34, hf⟩ := am_bd hf
            refine am_putI2 (j := 39) hE (am_dec tmX12_sing_0 51 rfl) sh_117 cf12 (by decide) rfl lf_X12_250 rfl rfl rfl g34 ?_
            refine am_aload_n (am_dec tmX12_sing_0 52 rfl) rfl rfl ?_
            refine am_iconst (v := (0 : Int32)) (am_dec tmX12_sing_0 53 rfl) (by decide) ?_
            obtain ⟨D35, g36, hf⟩ := am_bd hf
            refine am_putI2 (j := 40) hE (am_dec tmX12_sing_0 54 rfl) sh_117 cf12 (by decide) rfl lf_X12_271 rfl rfl rfl g36 ?_
            refine am_iconst (v := (0 : Int32)) (am_dec tmX12_sing_0 55 rfl) (by decide) ?_
            refine am_istore (lv' := [(0, .ref 117), (1, .int p1), (2, .int p2), (3, .int p3), (4, .int p4), (5, .int (0 : Int32))]) (am_dec tmX12_sing_0 56 rfl) (by decide) rfl ?_
            obtain ⟨e52, g53, hf⟩ := am_bd hf
            refine am_pick [0, 1, 3, 4, 5] rfl (l_X12_sing_L104 hE (Nat.le_refl _) am_fu _ _ _ g53 (fun ex he => ?_))
            subst he
            refine am_aload_n (am_dec tmX12_sing_1 27 rfl) rfl rfl ?_
            refine am_getI (j := 38) hE (am_dec tmX12_sing_1 28 rfl) sh_117 cf12 (by decide) rfl lf_X12_262 ?_
            have hf := Option.some.inj hf
            subst hf
            exact am_iret (am_dec tmX12_sing_1 29 rfl) rfl (Nat.zero_le _) (Nat.zero_le _)
          · rw [if_neg c26] at hf
            refine am_iconst (v := (0 : Int32)) (am_dec tmX12_sing_0 40 rfl) (by decide) ?_
            have hf := Option.some.inj hf
            subst hf
            exact am_iret (am_dec tmX12_sing_0 41 rfl) rfl (Nat.zero_le _) (Nat.zero_le _)
        replace hf := g54
        refine am_icmp_ge (tgt := 68) (am_dec tmX12_sing_0 33 rfl) (by decide) (fun c21 => ?_) (fun c21 => ?_)
        · rw [if_pos c21] at hf
          refine am_iconst (v := (0 : Int32)) (am_dec tmX12_sing_0 36 rfl) (by decide) ?_
          have hf := Option.some.inj hf
          subst hf
          exact am_pick [0, 1, 2, 3, 4] rfl key22
        · rw [if_neg c21] at hf
          refine am_iconst (v := (1 : Int32)) (am_dec tmX12_sing_0 34 rfl) (by decide) ?_
          refine am_goto (tgt := 69) (am_dec tmX12_sing_0 35 rfl) (by decide) ?_
          have hf := Option.some.inj hf
          subst hf
          exact am_pick [0, 1, 2, 3, 4] rfl key22
    replace hf := g55
    refine am_if_eq (tgt := 37) (am_dec tmX12_sing_0 13 rfl) (by decide) (fun c8 => ?_) (fun c8 => ?_)
    · rw [if_pos c8] at hf
      refine am_iconst (v := (1 : Int32)) (am_dec tmX12_sing_0 19 rfl) (by decide) ?_
      refine am_goto (tgt := 42) (am_dec tmX12_sing_0 20 rfl) (by decide) ?_
      have hf := Option.some.inj hf
      subst hf
      exact am_pick [0, 1, 2, 3, 4] rfl key9
    · rw [if_neg c8] at hf
      refine am_iload (am_dec tmX12_sing_0 14 rfl) rfl ?_
      refine am_bipush (v := (8 : Int32)) (am_dec tmX12_sing_0 15 rfl) (by decide) ?_
      refine am_bipush (v := (60 : Int32)) (am_dec tmX12_sing_0 16 rfl) (by decide) ?_
      obtain ⟨x11, g10, hf⟩ := am_bd hf
      refine am_callS1 (As := [.int p4, .int (8 : Int32), .int (60 : Int32)]) (st := [.ref 117]) (am_dec tmX12_sing_0 17 rfl) ok_X12_in rfl lm_X12_144 st_X12_in (c_X12_in hE g10) rfl (by decide) (Nat.le_of_ble_eq_true rfl) (Nat.zero_le _) (Nat.zero_le _) rfl ?_
      refine am_if_ne (tgt := 41) (am_dec tmX12_sing_0 18 rfl) (by decide) (fun c12 => ?_) (fun c12 => ?_)
      · rw [if_neg c12] at hf
        refine am_iconst (v := (0 : Int32)) (am_dec tmX12_sing_0 21 rfl) (by decide) ?_
        have hf := Option.some.inj hf
        subst hf
        exact am_pick [0, 1, 2, 3, 4] rfl key9
      · rw [if_pos c12] at hf
        refine am_iconst (v := (1 : Int32)) (am_dec tmX12_sing_0 19 rfl) (by decide) ?_
        refine am_goto (tgt := 42) (am_dec tmX12_sing_0 20 rfl) (by decide) ?_
        have hf := Option.some.inj hf
        subst hf
        exact am_pick [0, 1, 2, 3, 4] rfl key9
def f_X12_jump_L9  (D : am_D) : Nat → Int32 → Int32 → Option (Int32)
  | 0, _, _ => none
  | n + 1, v1, v2 =>
    if (D.1 117 38) ≤ v2 then
    some (v1)
    else
    (am_gI D 222 1200 v2).bind fun x4 =>
    (am_gI D 222 1200 (v2 - (1 : Int32))).bind fun x6 =>
    (f_X12_amount (x4 - x6)).bind fun x9 =>
    (f_X12_more v1 x9).bind fun x11 =>
    f_X12_jump_L9 D n x11 (v2 + (1 : Int32))
def f_X12_jump (D : am_D) : Option ((Int32 × am_D)) :=
    (some (am_wI D 117 0 (0 : Int32))).bind fun D1 =>
    (f_X12_jump_L9 D1 am_fu (0 : Int32) (1 : Int32)).bind fun e12 =>
    some (e12, D1)
set_option maxRecDepth 100000 in
set_option maxHeartbeats 4000000 in
theorem l_X12_jump_L9 {E : am_E} (hE : am_EH E) {d mc ms : Nat} {o : am_O} {G2 : am_G} {D2 : am_D} (hdp : 2 ≤ d)  {D : am_D}  : ∀ (n : Nat) (v1 : Int32) (v2 : Int32) (ex0 : Int32), f_X12_jump_L9  D n v1 v2 = some ex0 → (∀ ex : Int32, ex0 = ex → am_S E mX12_jump d mc ms o G2 D2 0 0 46 [(1, .int ex)] [] am_G0 D) → am_S E mX12_jump d mc ms o G2 D2 0 0 9 [(0, .ref 117), (1, .int v1), (2, .int v2)] [] am_G0 D
  | 0, _, _, _, hf, _ => by
    unfold f_X12_jump_L9 at hf
    cases hf
  | n + 1, v1, v2, ex0, hf, hk0 => by
    unfold f_X12_jump_L9 at hf
    refine am_iload_n (am_dec tmX12_jump 7 rfl) rfl rfl ?_
    refine am_aload_n (am_dec tmX12_jump 8 rfl) rfl rfl ?_
    refine am_getI (j := 38) hE (am_dec tmX12_jump 9 rfl) sh_117 cf12 (by decide) rfl lf_X12_262 ?_
    refine am_icmp_ge (tgt := 46) (am_dec tmX12_jump 10 rfl) (by decide) (fun c3 => ?_) (fun c3 => ?_)
    · rw [if_pos c3] at hf
      have hf := Option.some.inj hf
      subst hf
      exact am_pick [1] rfl (hk0 _ rfl)
    · rw [if_neg c3] at hf
      refine am_iload_n (am_dec tmX12_jump 11 rfl) rfl rfl ?_
      refine am_aload_n (am_dec tmX12_jump 12 rfl) rfl rfl ?_
      refine am_getR (j := 34) hE (am_dec tmX12_jump 13 rfl) sh_117 cf12 (by decide) rfl lf_X12_73 rf_117_34 ?_
      refine am_iload_n (am_dec tmX12_jump 14 rfl) rfl rfl ?_
      obtain ⟨x4, g5, hf⟩ := am_bd hf
      refine am_iald2 hE (am_dec tmX12_jump 15 rfl) sh_222 g5 ?_
      refine am_aload_n (am_dec tmX12_jump 16 rfl) rfl rfl ?_
      refine am_getR (j := 34) hE (am_dec tmX12_jump 17 rfl) sh_117 cf12 (by decide) rfl lf_X12_73 rf_117_34 ?_
      refine am_iload_n (am_dec tmX12_jump 18 rfl) rfl rfl ?_
      refine am_iconst (v := (1 : Int32)) (am_dec tmX12_jump 19 rfl) (by decide) ?_
      refine am_isub (am_dec tmX12_jump 20 rfl) ?_
      obtain ⟨x6, g7, hf⟩ := am_bd hf
      refine am_iald2 hE (am_dec tmX12_jump 21 rfl) sh_222 g7 ?_
      refine am_isub (am_dec tmX12_jump 22 rfl) ?_
      obtain ⟨x9, g8, hf⟩ := am_bd hf
      refine am_callS1 (As := [.int (x4 - x6)]) (st := [.int v1]) (am_dec tmX12_jump 23 rfl) ok_X12_amount rfl lm_X12_281 st_X12_amount (c_X12_amount hE g8) rfl (Nat.lt_of_lt_of_le (by decide) hdp) (Nat.le_of_ble_eq_true rfl) (Nat.zero_le _) (Nat.zero_le _) rfl ?_
      obtain ⟨x11, g10, hf⟩ := am_bd hf
      refine am_callS1 (As := [.int v1, .int x9]) (st := []) (am_dec tmX12_jump 24 rfl) ok_X12_more rfl lm_X12_306 st_X12_more (c_X12_more hE g10) rfl (Nat.lt_of_lt_of_le (by decide) hdp) (Nat.le_of_ble_eq_true rfl) (Nat.zero_le _) (Nat.zero_le _) rfl ?_
      refine am_istore_n (lv' := [(0, .ref 117), (1, .int x11), (2, .int v2)]) (am_dec tmX12_jump 25 rfl) rfl (by decide) rfl ?_
      refine am_iinc (v := (1 : Int32)) (lv' := [(0, .ref 117), (1, .int x11), (2, .int (v2 + (1 : Int32)))]) (am_dec tmX12_jump 26 rfl) rfl (by decide) (by decide) rfl ?_
      refine am_goto (tgt := 9) (am_dec tmX12_jump 27 rfl) (by decide) ?_
      exact am_pick [0, 1, 2] rfl (l_X12_jump_L9 hE hdp n x11 (v2 + (1 : Int32)) ex0 hf hk0)
set_option maxRecDepth 100000 in
set_option maxHeartbeats 4000000 in
theorem c_X12_jump {E : am_E} (hE : am_EH E) {D : am_D} {r : (Int32 × am_D)}  (hf : f_X12_jump D = some r) : am_C E mX12_jump 2 0 0 [.ref 117] am_G0 D (.inl (some (.int r.1))) am_G0 r.2 := by
  refine am_C_of (by decide +kernel) (Nat.le_of_ble_eq_true rfl) ?_
  change am_S E mX12_jump 2 0 0 (.inl (some (.int r.1))) am_G0 r.2 0 0 0 [(0, .ref 117)] [] am_G0 D
  unfold f_X12_jump at hf
  refine am_aload_n (am_dec tmX12_jump 0 rfl) rfl rfl ?_
  refine am_iconst (v := (0 : Int32)) (am_dec tmX12_jump 1 rfl) (by decide) ?_
  obtain ⟨D1, g2, hf⟩ := am_bd hf
  refine am_putI2 (j := 0) hE (am_dec tmX12_jump 2 rfl) sh_117 cf12 (by decide) rfl lf_X12_110 rfl rfl rfl g2 ?_
  refine am_iconst (v := (0 : Int32)) (am_dec tmX12_jump 3 rfl) (by decide) ?_
  refine am_istore_n (lv' := [(0, .ref 117), (1, .int (0 : Int32))]) (am_dec tmX12_jump 4 rfl) rfl (by decide) rfl ?_
  refine am_iconst (v := (1 : Int32)) (am_dec tmX12_jump 5 rfl) (by decide) ?_
  refine am_istore_n (lv' := [(0, .ref 117), (1, .int (0 : Int32)), (2, .int (1 : Int32))]) (am_dec tmX12_jump 6 rfl) rfl (by decide) rfl ?_
  obtain ⟨e12, g13, hf⟩ := am_bd hf
  refine am_pick [0, 1, 2] rfl (l_X12_jump_L9 hE (Nat.le_refl _) am_fu _ _ _ g13 (fun ex he => ?_))
  subst he
  refine am_iload_n (am_dec tmX12_jump 28 rfl) rfl rfl ?_
  have hf := Option.some.inj hf
  subst hf
  exact am_iret (am_dec tmX12_jump 29 rfl) rfl (Nat.zero_le _) (Nat.zero_le _)
