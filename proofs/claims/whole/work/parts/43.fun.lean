def f_X12_loop_L112 (q1 : Int32) (q2 : Int32) (q3 : Int32) (q4 : Int32) (q5 : Int32) (q6 : Int32) (q7 : Int32) (q8 : Int32) (D : am_D) : Nat → Int32 → Int32 → Option (Int32)
  | 0, _, _ => none
  | n + 1, v9, v10 =>
    if (D.1 117 15) ≤ v10 then
    some (v9)
    else
    (am_gA 5 q1).bind fun j29 =>
    (am_gI D (134 + j29) 600 (q7 + v10)).bind fun x31 =>
    (am_gA 5 q1).bind fun j33 =>
    (am_gI D (134 + j33) 600 (q8 + v10)).bind fun x35 =>
    (f_X12_amount (x31 - x35)).bind fun x38 =>
    f_X12_loop_L112 q1 q2 q3 q4 q5 q6 q7 q8 D n (v9 + x38) (v10 + (1 : Int32))
def f_X12_loop_L90 (q1 : Int32) (q2 : Int32) (q3 : Int32) (q7 : Int32) (D : am_D) : Nat → Int32 → Int32 → Int32 → Int32 → Option (Int32 × Int32 × Int32)
  | 0, _, _, _, _ => none
  | n + 1, v4, v5, v6, v8 =>
    (am_gI D 139 5 q1).bind fun x25 =>
    if x25 < (v8 + (D.1 117 15)) then
    some (v4, v5, v6)
    else
    (f_X12_loop_L112 q1 q2 q3 v4 v5 v6 q7 v8 D am_fu (0 : Int32) (0 : Int32)).bind fun e39 =>
    (if v4 = (-1 : Int32) then
    some (q7, v8, e39)
    else
    if v6 < e39 then
    some (v4, v5, v6)
    else
    if e39 = v6 then
    if (v5 - v4) < (v8 - q7) then
    some (q7, v8, e39)
    else
    some (v4, v5, v6)
    else
    some (q7, v8, e39)).bind fun w45 =>
    f_X12_loop_L90 q1 q2 q3 q7 D n w45.1 w45.2.1 w45.2.2 (v8 + (1 : Int32))
def f_X12_loop_L73 (q1 : Int32) (q2 : Int32) (q3 : Int32) (D : am_D) : Nat → Int32 → Int32 → Int32 → Int32 → Option (Int32 × Int32 × Int32)
  | 0, _, _, _, _ => none
  | n + 1, v4, v5, v6, v7 =>
    (am_gI D 139 5 q1).bind fun x22 =>
    if x22 ≤ v7 then
    some (v4, v5, v6)
    else
    (f_X12_loop_L90 q1 q2 q3 v7 D am_fu v4 v5 v6 (v7 + q2)).bind fun e48 =>
    f_X12_loop_L73 q1 q2 q3 D n e48.1 e48.2.1 e48.2.2 (v7 + (1 : Int32))
def f_X12_loop (p1 : Int32) (p2 : Int32) (p3 : Int32) (D : am_D) : Option ((Int32 × am_D)) :=
    (some (am_wI D 117 0 (0 : Int32))).bind fun D1 =>
    (f_X12_isSound p1 D1).bind fun x4 =>
    (if x4 = 0 then
    some ((1 : Int32))
    else
    some ((0 : Int32))).bind fun w7 =>
    (f_X12_bad w7 (1 : Int32) D1).bind fun x9 =>
    if x9.1 = 0 then
    (f_X12_in p2 (1 : Int32) (600 : Int32)).bind fun x12 =>
    (if x12 = 0 then
    some ((1 : Int32))
    else
    (f_X12_in p3 (0 : Int32) (2 : Int32)).bind fun x16 =>
    if x16 = 0 then
    some ((1 : Int32))
    else
    some ((0 : Int32))).bind fun w18 =>
    (f_X12_bad w18 (2 : Int32) x9.2).bind fun x20 =>
    if x20.1 = 0 then
    (f_X12_loop_L73 p1 p2 p3 x20.2 am_fu (-1 : Int32) (0 : Int32) (0 : Int32) (0 : Int32)).bind fun e50 =>
    if e50.1 = (-1 : Int32) then
    some ((-1 : Int32), x20.2)
    else
    if p3 = 0 then
    some (e50.1, x20.2)
    else
    if p3 = (1 : Int32) then
    some (e50.2.1, x20.2)
    else
    some (e50.2.2, x20.2)
    else
    some ((0 : Int32), x20.2)
    else
    some ((0 : Int32), x9.2)
set_option maxRecDepth 100000 in
set_option maxHeartbeats 4000000 in
theorem l_X12_loop_L112 {E : am_E} (hE : am_EH E) {d mc ms : Nat} {o : am_O} {G2 : am_G} {D2 : am_D} (hdp : 3 ≤ d) {q1 : Int32} {q2 : Int32} {q3 : Int32} {q4 : Int32} {q5 : Int32} {q6 : Int32} {q7 : Int32} {q8 : Int32} {D : am_D}  : ∀ (n : Nat) (v9 : Int32) (v10 : Int32) (ex0 : Int32), f_X12_loop_L112 q1 q2 q3 q4 q5 q6 q7 q8 D n v9 v10 = some ex0 → (∀ ex : Int32, ex0 = ex → am_S E mX12_loop d mc ms o G2 D2 0 0 160 [(0, .ref 117), (1, .int q1), (2, .int q2), (3, .int q3), (4, .int q4), (5, .int q5), (6, .int q6), (7, .int q7), (8, .int q8), (9, .int ex)] [] am_G0 D) → am_S E mX12_loop d mc ms o G2 D2 0 0 112 [(0, .ref 117), (1, .int q1), (2, .int q2), (3, .int q3), (4, .int q4), (5, .int q5), (6, .int q6), (7, .int q7), (8, .int q8), (9, .int v9), (10, .int v10)] [] am_G0 D
  | 0, _, _, _, hf, _ => by
    unfold f_X12_loop_L112 at hf
    cases hf
  | n + 1, v9, v10, ex0, hf, hk0 => by
    unfold f_X12_loop_L112 at hf
    refine am_iload (am_dec tmX12_loop_1 4 rfl) rfl ?_
    refine am_aload_n (am_dec tmX12_loop_1 5 rfl) rfl rfl ?_
    refine am_getI (j := 15) hE (am_dec tmX12_loop_1 6 rfl) sh_117 cf12 (by decide) rfl lf_X12_28 ?_
    refine am_icmp_ge (tgt := 160) (am_dec tmX12_loop_1 7 rfl) (by decide) (fun c28 => ?_) (fun c28 => ?_)
    · rw [if_pos c28] at hf
      have hf := Option.some.inj hf
      subst hf
      exact am_pick [0, 1, 2, 3, 4, 5, 6, 7, 8, 9] rfl (hk0 _ rfl)
    · rw [if_neg c28] at hf
      refine am_iload (am_dec tmX12_loop_1 8 rfl) rfl ?_
      refine am_aload_n (am_dec tmX12_loop_1 9 rfl) rfl rfl ?_
      refine am_getR (j := 24) hE (am_dec tmX12_loop_1 10 rfl) sh_117 cf12 (by decide) rfl lf_X12_43 rf_117_24 ?_
      refine am_iload_n (am_dec tmX12_loop_1 11 rfl) rfl rfl ?_
      obtain ⟨j29, g30, hf⟩ := am_bd hf
      have hj_j29 := (am_gA_lt g30).1
      refine am_aald2 (t := 6) hE (am_dec tmX12_loop_1 12 rfl) sh_133 (by decide) rfl rfl g30 (rr_133 hj_j29) ?_
      refine am_iload (am_dec tmX12_loop_1 13 rfl) rfl ?_
      refine am_iload (am_dec tmX12_loop_1 14 rfl) rfl ?_
      refine am_iadd (am_dec tmX12_loop_1 15 rfl) ?_
      obtain ⟨x31, g32, hf⟩ := am_bd hf
      refine am_iald2 hE (am_dec tmX12_loop_1 16 rfl) (sa_133_0 hj_j29) g32 ?_
      refine am_aload_n (am_dec tmX12_loop_1 17 rfl) rfl rfl ?_
      refine am_getR (j := 24) hE (am_dec tmX12_loop_1 18 rfl) sh_117 cf12 (by decide) rfl lf_X12_43 rf_117_24 ?_
      refine am_iload_n (am_dec tmX12_loop_1 19 rfl) rfl rfl ?_
      obtain ⟨j33, g34, hf⟩ := am_bd hf
      have hj_j33 := (am_gA_lt g34).1
      refine am_aald2 (t := 6) hE (am_dec tmX12_loop_1 20 rfl) sh_133 (by decide) rfl rfl g34 (rr_133 hj_j33) ?_
      refine am_iload (am_dec tmX12_loop_1 21 rfl) rfl ?_
      refine am_iload (am_dec tmX12_loop_1 22 rfl) rfl ?_
      refine am_iadd (am_dec tmX12_loop_1 23 rfl) ?_
      obtain ⟨x35, g36, hf⟩ := am_bd hf
      refine am_iald2 hE (am_dec tmX12_loop_1 24 rfl) (sa_133_0 hj_j33) g36 ?_
      refine am_isub (am_dec tmX12_loop_1 25 rfl) ?_
      obtain ⟨x38, g37, hf⟩ := am_bd hf
      refine am_callS1 (As := [.int (x31 - x35)]) (st := [.int v9]) (am_dec tmX12_loop_1 26 rfl) ok_X12_amount rfl lm_X12_281 st_X12_amount (c_X12_amount hE g37) rfl (Nat.lt_of_lt_of_le (by decide) hdp) (Nat.le_of_ble_eq_true rfl) (Nat.zero_le _) (Nat.zero_le _) rfl ?_
      refine am_iadd (am_dec tmX12_loop_1 27 rfl) ?_
      refine am_istore (lv' := [(0, .ref 117), (1, .int q1), (2, .int q2), (3, .int q3), (4, .int q4), (5, .int q5), (6, .int q6), (7, .int q7), (8, .int q8), (9, .int (v9 + x38)), (10, .int v10)]) (am_dec tmX12_loop_1 28 rfl) (by decide) rfl ?_
      refine am_iinc (v := (1 : Int32)) (lv' := [(0, .ref 117), (1, .int q1), (2, .int q2), (3, .int q3), (4, .int q4), (5, .int q5), (6, .int q6), (7, .int q7), (8, .int q8), (9, .int (v9 + x38)), (10, .int (v10 + (1 : Int32)))]) (am_dec tmX12_loop_1 29 rfl) rfl (by decide) (by decide) rfl ?_
      refine am_goto (tgt := 112) (am_dec tmX12_loop_1 30 rfl) (by decide) ?_
      exact am_pick [0, 1, 2, 3, 4, 5, 6, 7, 8, 9, 10] rfl (l_X12_loop_L112 hE hdp n (v9 + x38) (v10 + (1 : Int32)) ex0 hf hk0)
set_option maxRecDepth 100000 in
set_option maxHeartbeats 4000000 in
theorem l_X12_loop_L90 {E : am_E} (hE : am_EH E) {d mc ms : Nat} {o : am_O} {G2 : am_G} {D2 : am_D} (hdp : 3 ≤ d) {q1 : Int32} {q2 : Int32} {q3 : Int32} {q7 : Int32} {D : am_D}  : ∀ (n : Nat) (v4 : Int32) (v5 : Int32) (v6 : Int32) (v8 : Int32) (ex0 : Int32 × Int32 × Int32), f_X12_loop_L90 q1 q2 q3 q7 D n v4 v5 v6 v8 = some ex0 → (∀ ex : Int32 × Int32 × Int32, ex0 = ex → am_S E mX12_loop d mc ms o G2 D2 0 0 214 [(0, .ref 117), (1, .int q1), (2, .int q2), (3, .int q3), (4, .int ex.1), (5, .int ex.2.1), (6, .int ex.2.2), (7, .int q7)] [] am_G0 D) → am_S E mX12_loop d mc ms o G2 D2 0 0 90 [(0, .ref 117), (1, .int q1), (2, .int q2), (3, .int q3), (4, .int v4), (5, .int v5), (6, .int v6), (7, .int q7), (8, .int v8)] [] am_G0 D
  | 0, _, _, _, _, _, hf, _ => by
    unfold f_X12_loop_L90 at hf
    cases hf
  | n + 1, v4, v5, v6, v8, ex0, hf, hk0 => by
    unfold f_X12_loop_L90 at hf
    refine am_iload (am_dec tmX12_loop_0 51 rfl) rfl ?_
    refine am_aload_n (am_dec tmX12_loop_0 52 rfl) rfl rfl ?_
    refine am_getI (j := 15) hE (am_dec tmX12_loop_0 53 rfl) sh_117 cf12 (by decide) rfl lf_X12_28 ?_
    refine am_iadd (am_dec tmX12_loop_0 54 rfl) ?_
    refine am_aload_n (am_dec tmX12_loop_0 55 rfl) rfl rfl ?_
    refine am_getR (j := 25) hE (am_dec tmX12_loop_0 56 rfl) sh_117 cf12 (by decide) rfl lf_X12_46 rf_117_25 ?_
    refine am_iload_n (am_dec tmX12_loop_0 57 rfl) rfl rfl ?_
    obtain ⟨x25, g26, hf⟩ := am_bd hf
    refine am_iald2 hE (am_dec tmX12_loop_0 58 rfl) sh_139 g26 ?_
    refine am_icmp_gt (tgt := 214) (am_dec tmX12_loop_0 59 rfl) (by decide) (fun c27 => ?_) (fun c27 => ?_)
    · rw [if_pos c27] at hf
      have hf := Option.some.inj hf
      subst hf
      exact am_pick [0, 1, 2, 3, 4, 5, 6, 7] rfl (hk0 _ rfl)
    · rw [if_neg c27] at hf
      refine am_iconst (v := (0 : Int32)) (am_dec tmX12_loop_1 0 rfl) (by decide) ?_
      refine am_istore (lv' := [(0, .ref 117), (1, .int q1), (2, .int q2), (3, .int q3), (4, .int v4), (5, .int v5), (6, .int v6), (7, .int q7), (8, .int v8), (9, .int (0 : Int32))]) (am_dec tmX12_loop_1 1 rfl) (by decide) rfl ?_
      refine am_iconst (v := (0 : Int32)) (am_dec tmX12_loop_1 2 rfl) (by decide) ?_
      refine am_istore (lv' := [(0, .ref 117), (1, .int q1), (2, .int q2), (3, .int q3), (4, .int v4), (5, .int v5), (6, .int v6), (7, .int q7), (8, .int v8), (9, .int (0 : Int32)), (10, .int (0 : Int32))]) (am_dec tmX12_loop_1 3 rfl) (by decide) rfl ?_
      obtain ⟨e39, g47, hf⟩ := am_bd hf
      refine am_pick [0, 1, 2, 3, 4, 5, 6, 7, 8, 9, 10] rfl (l_X12_loop_L112 hE hdp am_fu _ _ _ g47 (fun ex he => ?_))
      subst he
      refine am_iload (am_dec tmX12_loop_1 31 rfl) rfl ?_
      refine am_iconst (v := (-1 : Int32)) (am_dec tmX12_loop_1 32 rfl) (by decide) ?_
      obtain ⟨w45, g46, hf⟩ := am_bd hf
      have key41 : am_S E mX12_loop d mc ms o G2 D2 0 0 208 [(0, .ref 117), (1, .int q1), (2, .int q2), (3, .int q3), (4, .int w45.1), (5, .int w45.2.1), (6, .int w45.2.2), (7, .int q7), (8, .int v8)] [] am_G0 D := by
        refine am_iinc (v := (1 : Int32)) (lv' := [(0, .ref 117), (1, .int q1), (2, .int q2), (3, .int q3), (4, .int w45.1), (5, .int w45.2.1), (6, .int w45.2.2), (7, .int q7), (8, .int (v8 + (1 : Int32)))]) (am_dec tmX12_loop_1 54 rfl) rfl (by decide) (by decide) rfl ?_
        refine am_goto (tgt := 90) (am_dec tmX12_loop_1 55 rfl) (by decide) ?_
        exact am_pick [0, 1, 2, 3, 4, 5, 6, 7, 8] rfl (l_X12_loop_L90 hE hdp n w45.1 w45.2.1 w45.2.2 (v8 + (1 : Int32)) ex0 hf hk0)
      replace hf := g46
      refine am_icmp_eq (tgt := 196) (am_dec tmX12_loop_1 33 rfl) (by decide) (fun c40 => ?_) (fun c40 => ?_)
      · rw [if_pos c40] at hf
        refine am_iload (am_dec tmX12_loop_1 48 rfl) rfl ?_
        refine am_istore (lv' := [(0, .ref 117), (1, .int q1), (2, .int q2), (3, .int q3), (4, .int q7), (5, .int v5), (6, .int v6), (7, .int q7), (8, .int v8), (9, .int e39)]) (am_dec tmX12_loop_1 49 rfl) (by decide) rfl ?_
        refine am_iload (am_dec tmX12_loop_1 50 rfl) rfl ?_
        refine am_istore (lv' := [(0, .ref 117), (1, .int q1), (2, .int q2), (3, .int q3), (4, .int q7), (5, .int v8), (6, .int v6), (7, .int q7), (8, .int v8), (9, .int e39)]) (am_dec tmX12_loop_1 51 rfl) (by decide) rfl ?_
        refine am_iload (am_dec tmX12_loop_1 52 rfl) rfl ?_
        refine am_istore (lv' := [(0, .ref 117), (1, .int q1), (2, .int q2), (3, .int q3), (4, .int q7), (5, .int v8), (6, .int e39), (7, .int q7), (8, .int v8), (9, .int e39)]) (am_dec tmX12_loop_1 53 rfl) (by decide) rfl ?_
        have hf := Option.some.inj hf
        subst hf
        exact am_pick [0, 1, 2, 3, 4, 5, 6, 7, 8] rfl key41
      · rw [if_neg c40] at hf
        refine am_iload (am_dec tmX12_loop_1 34 rfl) rfl ?_
        refine am_iload (am_dec tmX12_loop_1 35 rfl) rfl ?_
        refine am_icmp_gt (tgt := 208) (am_dec tmX12_loop_1 36 rfl) (by decide) (fun c42 => ?_) (fun c42 => ?_)
        · rw [if_pos c42] at hf
          have hf := Option.some.inj hf
          subst hf
          exact am_pick [0, 1, 2, 3, 4, 5, 6, 7, 8] rfl key41
        · rw [if_neg c42] at hf
          refine am_iload (am_dec tmX12_loop_1 37 rfl) rfl ?_
          refine am_iload (am_dec tmX12_loop_1 38 rfl) rfl ?_
          refine am_icmp_ne (tgt := 196) (am_dec tmX12_loop_1 39 rfl) (by decide) (fun c43 => ?_) (fun c43 => ?_)
          · rw [if_neg c43] at hf
            refine am_iload (am_dec tmX12_loop_1 48 rfl) rfl ?_
            refine am_istore (lv' := [(0, .ref 117), (1, .int q1), (2, .int q2), (3, .int q3), (4, .int q7), (5, .int v5), (6, .int v6), (7, .int q7), (8, .int v8), (9, .int e39)]) (am_dec tmX12_loop_1 49 rfl) (by decide) rfl ?_
            refine am_iload (am_dec tmX12_loop_1 50 rfl) rfl ?_
            refine am_istore (lv' := [(0, .ref 117), (1, .int q1), (2, .int q2), (3, .int q3), (4, .int q7), (5, .int v8), (6, .int v6), (7, .int q7), (8, .int v8), (9, .int e39)]) (am_dec tmX12_loop_1 51 rfl) (by decide) rfl ?_
            refine am_iload (am_dec tmX12_loop_1 52 rfl) rfl ?_
            refine am_istore (lv' := [(0, .ref 117), (1, .int q1), (2, .int q2), (3, .int q3), (4, .int q7), (5, .int v8), (6, .int e39), (7, .int q7), (8, .int v8), (9, .int e39)]) (am_dec tmX12_loop_1 53 rfl) (by decide) rfl ?_
            have hf := Option.some.inj hf
            subst hf
            exact am_pick [0, 1, 2, 3, 4, 5, 6, 7, 8] rfl key41
          · rw [if_pos c43] at hf
            refine am_iload (am_dec tmX12_loop_1 40 rfl) rfl ?_
            refine am_iload (am_dec tmX12_loop_1 41 rfl) rfl ?_
            refine am_isub (am_dec tmX12_loop_1 42 rfl) ?_
            refine am_iload (am_dec tmX12_loop_1 43 rfl) rfl ?_
            refine am_iload (am_dec tmX12_loop_1 44 rfl) rfl ?_
            refine am_isub (am_dec tmX12_loop_1 45 rfl) ?_
            refine am_icmp_gt (tgt := 196) (am_dec tmX12_loop_1 46 rfl) (by decide) (fun c44 => ?_) (fun c44 => ?_)
            · rw [if_pos c44] at hf
              refine am_iload (am_dec tmX12_loop_1 48 rfl) rfl ?_
              refine am_istore (lv' := [(0, .ref 117), (1, .int q1), (2, .int q2), (3, .int q3), (4, .int q7), (5, .int v5), (6, .int v6), (7, .int q7), (8, .int v8), (9, .int e39)]) (am_dec tmX12_loop_1 49 rfl) (by decide) rfl ?_
              refine am_iload (am_dec tmX12_loop_1 50 rfl) rfl ?_
              refine am_istore (lv' := [(0, .ref 117), (1, .int q1), (2, .int q2), (3, .int q3), (4, .int q7), (5, .int v8), (6, .int v6), (7, .int q7), (8, .int v8), (9, .int e39)]) (am_dec tmX12_loop_1 51 rfl) (by decide) rfl ?_
              refine am_iload (am_dec tmX12_loop_1 52 rfl) rfl ?_
              refine am_istore (lv' := [(0, .ref 117), (1, .int q1), (2, .int q2), (3, .int q3), (4, .int q7), (5, .int v8), (6, .int e39), (7, .int q7), (8, .int v8), (9, .int e39)]) (am_dec tmX12_loop_1 53 rfl) (by decide) rfl ?_
              have hf := Option.some.inj hf
              subst hf
              exact am_pick [0, 1, 2, 3, 4, 5, 6, 7, 8] rfl key41
            · rw [if_neg c44] at hf
              refine am_goto (tgt := 208) (am_dec tmX12_loop_1 47 rfl) (by decide) ?_
              have hf := Option.some.inj hf
              subst hf
              exact am_pick [0, 1, 2, 3, 4, 5, 6, 7, 8] rfl key41
set_option maxRecDepth 100000 in
set_option maxHeartbeats 4000000 in
theorem l_X12_loop_L73 {E : am_E} (hE : am_EH E) {d mc ms : Nat} {o : am_O} {G2 : am_G} {D2 : am_D} (hdp : 3 ≤ d) {q1 : Int32} {q2 : Int32} {q3 : Int32} {D : am_D}  : ∀ (n : Nat) (v4 : Int32) (v5 : Int32) (v6 : Int32) (v7 : Int32) (ex0 : Int32 × Int32 × Int32), f_X12_loop_L73 q1 q2 q3 D n v4 v5 v6 v7 = some ex0 → (∀ ex : Int32 × Int32 × Int32, ex0 = ex → am_S E mX12_loop d mc ms o G2 D2 0 0 220 [(3, .int q3), (4, .int ex.1), (5, .int ex.2.1), (6, .int ex.2.2)] [] am_G0 D) → am_S E mX12_loop d mc ms o G2 D2 0 0 73 [(0, .ref 117), (1, .int q1), (2, .int q2), (3, .int q3), (4, .int v4), (5, .int v5), (6, .int v6), (7, .int v7)] [] am_G0 D
  | 0, _, _, _, _, _, hf, _ => by
    unfold f_X12_loop_L73 at hf
    cases hf
  | n + 1, v4, v5, v6, v7, ex0, hf, hk0 => by
    unfold f_X12_loop_L73 at hf
    refine am_iload (am_dec tmX12_loop_0 41 rfl) rfl ?_
    refine am_aload_n (am_dec tmX12_loop_0 42 rfl) rfl rfl ?_
    refine am_getR (j := 25) hE (am_dec tmX12_loop_0 43 rfl) sh_117 cf12 (by decide) rfl lf_X12_46 rf_117_25 ?_
    refine am_iload_n (am_dec tmX12_loop_0 44 rfl) rfl rfl ?_
    obtain ⟨x22, g23, hf⟩ := am_bd hf
    refine am_iald2 hE (am_dec tmX12_loop_0 45 rfl) sh_139 g23 ?_
    refine am_icmp_ge (tgt := 220) (am_dec tmX12_loop_0 46 rfl) (by decide) (fun c24 => ?_) (fun c24 => ?_)
    · rw [if_pos c24] at hf
      have hf := Option.some.inj hf
      subst hf
      exact am_pick [3, 4, 5, 6] rfl (hk0 _ rfl)
    · rw [if_neg c24] at hf
      refine am_iload (am_dec tmX12_loop_0 47 rfl) rfl ?_
      refine am_iload_n (am_dec tmX12_loop_0 48 rfl) rfl rfl ?_
      refine am_iadd (am_dec tmX12_loop_0 49 rfl) ?_
      refine am_istore (lv' := [(0, .ref 117), (1, .int q1), (2, .int q2), (3, .int q3), (4, .int v4), (5, .int v5), (6, .int v6), (7, .int v7), (8, .int (v7 + q2))]) (am_dec tmX12_loop_0 50 rfl) (by decide) rfl ?_
      obtain ⟨e48, g49, hf⟩ := am_bd hf
      refine am_pick [0, 1, 2, 3, 4, 5, 6, 7, 8] rfl (l_X12_loop_L90 hE hdp am_fu _ _ _ _ _ g49 (fun ex he => ?_))
      subst he
      refine am_iinc (v := (1 : Int32)) (lv' := [(0, .ref 117), (1, .int q1), (2, .int q2), (3, .int q3), (4, .int e48.1), (5, .int e48.2.1), (6, .int e48.2.2), (7, .int (v7 + (1 : Int32)))]) (am_dec tmX12_loop_1 56 rfl) rfl (by decide) (by decide) rfl ?_
      refine am_goto (tgt := 73) (am_dec tmX12_loop_1 57 rfl) (by decide) ?_
      exact am_pick [0, 1, 2, 3, 4, 5, 6, 7] rfl (l_X12_loop_L73 hE hdp n e48.1 e48.2.1 e48.2.2 (v7 + (1 : Int32)) ex0 hf hk0)
set_option maxRecDepth 100000 in
set_option maxHeartbeats 4000000 in
theorem c_X12_loop {E : am_E} (hE : am_EH E) {p1 : Int32} {p2 : Int32} {p3 : Int32} {D : am_D} {r : (Int32 × am_D)}  (hf : f_X12_loop p1 p2 p3 D = some r) : am_C E mX12_loop 3 0 0 [.ref 117, .int p1, .int p2, .int p3] am_G0 D (.inl (some (.int r.1))) am_G0 r.2 := by
  refine am_C_of (by decide +kernel) (Nat.le_of_ble_eq_true rfl) ?_
  change am_S E mX12_loop 3 0 0 (.inl (some (.int r.1))) am_G0 r.2 0 0 0 [(0, .ref 117), (1, .int p1), (2, .int p2), (3, .int p3)] [] am_G0 D
  unfold f_X12_loop at hf
  refine am_aload_n (am_dec tmX12_loop_0 0 rfl) rfl rfl ?_
  refine am_iconst (v := (0 : Int32)) (am_dec tmX12_loop_0 1 rfl) (by decide) ?_
  obtain ⟨D1, g2, hf⟩ := am_bd hf
  refine am_putI2 (j := 0) hE (am_dec tmX12_loop_0 2 rfl) sh_117 cf12 (by decide) rfl lf_X12_110 rfl rfl rfl g2 ?_
  refine am_aload_n (am_dec tmX12_loop_0 3 rfl) rfl rfl ?_
  refine am_aload_n (am_dec tmX12_loop_0 4 rfl) rfl rfl ?_
  refine am_iload_n (am_dec tmX12_loop_0 5 rfl) rfl rfl ?_
  obtain ⟨x4, g3, hf⟩ := am_bd hf
  refine am_callV1 (As := [.int p1]) (st := [.ref 117]) hE (am_dec tmX12_loop_0 6 rfl) ok_X12_isSound rfl lm_X12_217 in_X12_isSound se_X12_isSound sh_117 cf12 (c_X12_isSound hE g3) rfl (by decide) (Nat.le_of_ble_eq_true rfl) (Nat.zero_le _) (Nat.zero_le _) rfl ?_
  obtain ⟨w7, g56, hf⟩ := am_bd hf
  have key6 : am_S E mX12_loop 3 0 0 (.inl (some (.int r.1))) am_G0 r.2 0 0 19 [(0, .ref 117), (1, .int p1), (2, .int p2), (3, .int p3)] [.int w7, .ref 117] am_G0 D1 := by
    refine am_iconst (v := (1 : Int32)) (am_dec tmX12_loop_0 11 rfl) (by decide) ?_
    obtain ⟨x9, g8, hf⟩ := am_bd hf
    refine am_callV1 (As := [.int w7, .int (1 : Int32)]) (st := []) hE (am_dec tmX12_loop_0 12 rfl) ok_X12_bad rfl lm_X12_191 in_X12_bad se_X12_bad sh_117 cf12 (c_X12_bad hE g8) rfl (by decide) (Nat.le_of_ble_eq_true rfl) (Nat.zero_le _) (Nat.zero_le _) rfl ?_
    refine am_if_ne (tgt := 59) (am_dec tmX12_loop_0 13 rfl) (by decide) (fun c10 => ?_) (fun c10 => ?_)
    · rw [if_neg c10] at hf
      refine am_iconst (v := (0 : Int32)) (am_dec tmX12_loop_0 31 rfl) (by decide) ?_
      have hf := Option.some.inj hf
      subst hf
      exact am_iret (am_dec tmX12_loop_0 32 rfl) rfl (Nat.zero_le _) (Nat.zero_le _)
    · rw [if_pos c10] at hf
      refine am_aload_n (am_dec tmX12_loop_0 14 rfl) rfl rfl ?_
      refine am_iload_n (am_dec tmX12_loop_0 15 rfl) rfl rfl ?_
      refine am_iconst (v := (1 : Int32)) (am_dec tmX12_loop_0 16 rfl) (by decide) ?_
      refine am_sipush (v := (600 : Int32)) (am_dec tmX12_loop_0 17 rfl) (by decide) ?_
      obtain ⟨x12, g11, hf⟩ := am_bd hf
      refine am_callS1 (As := [.int p2, .int (1 : Int32), .int (600 : Int32)]) (st := [.ref 117]) (am_dec tmX12_loop_0 18 rfl) ok_X12_in rfl lm_X12_144 st_X12_in (c_X12_in hE g11) rfl (by decide) (Nat.le_of_ble_eq_true rfl) (Nat.zero_le _) (Nat.zero_le _) rfl ?_
      obtain ⟨w18, g55, hf⟩ := am_bd hf
      have key14 : am_S E mX12_loop 3 0 0 (.inl (some (.int r.1))) am_G0 r.2 0 0 52 [(0, .ref 117), (1, .int p1), (2, .int p2), (3, .int p3)] [.int w18, .ref 117] am_G0 x9.2 := by
        refine am_iconst (v := (2 : Int32)) (am_dec tmX12_loop_0 28 rfl) (by decide) ?_
        obtain ⟨x20, g19, hf⟩ := am_bd hf
        refine am_callV1 (As := [.int w18, .int (2 : Int32)]) (st := []) hE (am_dec tmX12_loop_0 29 rfl) ok_X12_bad rfl lm_X12_191 in_X12_bad se_X12_bad sh_117 cf12 (c_X12_bad hE g19) rfl (by decide) (Nat.le_of_ble_eq_true rfl) (Nat.zero_le _) (Nat.zero_le _) rfl ?_
        refine am_if_eq (tgt := 61) (am_dec tmX12_loop_0 30 rfl) (by decide) (fun c21 => ?_) (fun c21 => ?_)
        · rw [if_pos c21] at hf
          refine am_iconst (v := (-1 : Int32)) (am_dec tmX12_loop_0 33 rfl) (by decide) ?_
          refine am_istore (lv' := [(0, .ref 117), (1, .int p1), (2, .int p2), (3, .int p3), (4, .int (-1 : Int32))]) (am_dec tmX12_loop_0 34 rfl) (by decide) rfl ?_
          refine am_iconst (v := (0 : Int32)) (am_dec tmX12_loop_0 35 rfl) (by decide) ?_
          refine am_istore (lv' := [(0, .ref 117), (1, .int p1), (2, .int p2), (3, .int p3), (4, .int (-1 : Int32)), (5, .int (0 : Int32))]) (am_dec tmX12_loop_0 36 rfl) (by decide) rfl ?_
          refine am_iconst (v := (0 : Int32)) (am_dec tmX12_loop_0 37 rfl) (by decide) ?_
          refine am_istore (lv' := [(0, .ref 117), (1, .int p1), (2, .int p2), (3, .int p3), (4, .int (-1 : Int32)), (5, .int (0 : Int32)), (6, .int (0 : Int32))]) (am_dec tmX12_loop_0 38 rfl) (by decide) rfl ?_
          refine am_iconst (v := (0 : Int32)) (am_dec tmX12_loop_0 39 rfl) (by decide) ?_
          refine am_istore (lv' := [(0, .ref 117), (1, .int p1), (2, .int p2), (3, .int p3), (4, .int (-1 : Int32)), (5, .int (0 : Int32)), (6, .int (0 : Int32)), (7, .int (0 : Int32))]) (am_dec tmX12_loop_0 40 rfl) (by decide) rfl ?_
          obtain ⟨e50, g54, hf⟩ := am_bd hf
          refine am_pick [0, 1, 2, 3, 4, 5, 6, 7] rfl (l_X12_loop_L73 hE (Nat.le_refl _) am_fu _ _ _ _ _ g54 (fun ex he => ?_))
          subst he
          refine am_iload (am_dec tmX12_loop_1 58 rfl) rfl ?_
          refine am_iconst (v := (-1 : Int32)) (am_dec tmX12_loop_1 59 rfl) (by decide) ?_
          refine am_icmp_ne (tgt := 230) (am_dec tmX12_loop_2 0 rfl) (by decide) (fun c51 => ?_) (fun c51 => ?_)
          · rw [if_neg c51] at hf
            refine am_iload_n (am_dec tmX12_loop_2 3 rfl) rfl rfl ?_
            refine am_if_ne (tgt := 239) (am_dec tmX12_loop_2 4 rfl) (by decide) (fun c52 => ?_) (fun c52 => ?_)
            · rw [if_neg c52] at hf
              refine am_iload_n (am_dec tmX12_loop_2 7 rfl) rfl rfl ?_
              refine am_iconst (v := (1 : Int32)) (am_dec tmX12_loop_2 8 rfl) (by decide) ?_
              refine am_icmp_ne (tgt := 249) (am_dec tmX12_loop_2 9 rfl) (by decide) (fun c53 => ?_) (fun c53 => ?_)
              · rw [if_neg c53] at hf
                refine am_iload (am_dec tmX12_loop_2 12 rfl) rfl ?_
                have hf := Option.some.inj hf
                subst hf
                exact am_iret (am_dec tmX12_loop_2 13 rfl) rfl (Nat.zero_le _) (Nat.zero_le _)
              · rw [if_pos c53] at hf
                refine am_iload (am_dec tmX12_loop_2 10 rfl) rfl ?_
                refine am_goto (tgt := 251) (am_dec tmX12_loop_2 11 rfl) (by decide) ?_
                have hf := Option.some.inj hf
                subst hf
                exact am_iret (am_dec tmX12_loop_2 13 rfl) rfl (Nat.zero_le _) (Nat.zero_le _)
            · rw [if_pos c52] at hf
              refine am_iload (am_dec tmX12_loop_2 5 rfl) rfl ?_
              refine am_goto (tgt := 251) (am_dec tmX12_loop_2 6 rfl) (by decide) ?_
              have hf := Option.some.inj hf
              subst hf
              exact am_iret (am_dec tmX12_loop_2 13 rfl) rfl (Nat.zero_le _) (Nat.zero_le _)
          · rw [if_pos c51] at hf
            refine am_iconst (v := (-1 : Int32)) (am_dec tmX12_loop_2 1 rfl) (by decide) ?_
            refine am_goto (tgt := 251) (am_dec tmX12_loop_2 2 rfl) (by decide) ?_
            have hf := Option.some.inj hf
            subst hf
            exact am_iret (am_dec tmX12_loop_2 13 rfl) rfl (Nat.zero_le _) (Nat.zero_le _)
        · rw [if_neg c21] at hf
          refine am_iconst (v := (0 : Int32)) (am_dec tmX12_loop_0 31 rfl) (by decide) ?_
          have hf := Option.some.inj hf
          subst hf
          exact am_iret (am_dec tmX12_loop_0 32 rfl) rfl (Nat.zero_le _) (Nat.zero_le _)
      replace hf := g55
      refine am_if_eq (tgt := 47) (am_dec tmX12_loop_0 19 rfl) (by decide) (fun c13 => ?_) (fun c13 => ?_)
      · rw [if_pos c13] at hf
        refine am_iconst (v := (1 : Int32)) (am_dec tmX12_loop_0 25 rfl) (by decide) ?_
        refine am_goto (tgt := 52) (am_dec tmX12_loop_0 26 rfl) (by decide) ?_
        have hf := Option.some.inj hf
        subst hf
        exact am_pick [0, 1, 2, 3] rfl key14
      · rw [if_neg c13] at hf
        refine am_iload_n (am_dec tmX12_loop_0 20 rfl) rfl rfl ?_
        refine am_iconst (v := (0 : Int32)) (am_dec tmX12_loop_0 21 rfl) (by decide) ?_
        refine am_iconst (v := (2 : Int32)) (am_dec tmX12_loop_0 22 rfl) (by decide) ?_
        obtain ⟨x16, g15, hf⟩ := am_bd hf
        refine am_callS1 (As := [.int p3, .int (0 : Int32), .int (2 : Int32)]) (st := [.ref 117]) (am_dec tmX12_loop_0 23 rfl) ok_X12_in rfl lm_X12_144 st_X12_in (c_X12_in hE g15) rfl (by decide) (Nat.le_of_ble_eq_true rfl) (Nat.zero_le _) (Nat.zero_le _) rfl ?_
        refine am_if_ne (tgt := 51) (am_dec tmX12_loop_0 24 rfl) (by decide) (fun c17 => ?_) (fun c17 => ?_)
        · rw [if_neg c17] at hf
          refine am_iconst (v := (0 : Int32)) (am_dec tmX12_loop_0 27 rfl) (by decide) ?_
          have hf := Option.some.inj hf
          subst hf
          exact am_pick [0, 1, 2, 3] rfl key14
        · rw [if_pos c17] at hf
          refine am_iconst (v := (1 : Int32)) (am_dec tmX12_loop_0 25 rfl) (by decide) ?_
          refine am_goto (tgt := 52) (am_dec tmX12_loop_0 26 rfl) (by decide) ?_
          have hf := Option.some.inj hf
          subst hf
          exact am_pick [0, 1, 2, 3] rfl key14
  replace hf := g56
  refine am_if_ne (tgt := 18) (am_dec tmX12_loop_0 7 rfl) (by decide) (fun c5 => ?_) (fun c5 => ?_)
  · rw [if_neg c5] at hf
    refine am_iconst (v := (0 : Int32)) (am_dec tmX12_loop_0 10 rfl) (by decide) ?_
    have hf := Option.some.inj hf
    subst hf
    exact am_pick [0, 1, 2, 3] rfl key6
  · rw [if_pos c5] at hf
    refine am_iconst (v := (1 : Int32)) (am_dec tmX12_loop_0 8 rfl) (by decide) ?_
    refine am_goto (tgt := 19) (am_dec tmX12_loop_0 9 rfl) (by decide) ?_
    have hf := Option.some.inj hf
    subst hf
    exact am_pick [0, 1, 2, 3] rfl key6
def f_X12_join_L115 (q1 : Int32) (q2 : Int32) (q3 : Int32) (q4 : Int32) (q5 : Int32) (D : am_D) : Nat → Int32 → Int32 → Option (Int32)
  | 0, _, _ => none
  | n + 1, v6, v7 =>
    if (D.1 117 15) ≤ v7 then
    some (v6)
    else
    (am_gA 5 q1).bind fun j26 =>
    (am_gI D 139 5 q1).bind fun x28 =>
    (am_gI D (134 + j26) 600 (((x28 - (D.1 117 15)) - q5) + v7)).bind fun x30 =>
    (am_gA 5 q2).bind fun j32 =>
    (am_gI D (134 + j32) 600 v7).bind fun x34 =>
    (f_X12_amount (x30 - x34)).bind fun x37 =>
    f_X12_join_L115 q1 q2 q3 q4 q5 D n (v6 + x37) (v7 + (1 : Int32))
def f_X12_join_L83 (q1 : Int32) (q2 : Int32) (D : am_D) : Nat → Int32 → Int32 → Int32 → Option (Int32)
  | 0, _, _, _ => none
  | n + 1, v3, v4, v5 =>
    if (D.1 117 16) < v5 then
    some (v3)
    else
    (am_gI D 139 5 q1).bind fun x22 =>
    if ((x22 - (D.1 117 15)) - v5) < 0 then
    some (v3)
    else
    (f_X12_join_L115 q1 q2 v3 v4 v5 D am_fu (0 : Int32) (0 : Int32)).bind fun e38 =>
    (if v3 = (-1 : Int32) then
    (am_gI D 139 5 q1).bind fun x41 =>
    some (((x41 - (D.1 117 15)) - v5), e38)
    else
    if e38 < v4 then
    (am_gI D 139 5 q1).bind fun x44 =>
    some (((x44 - (D.1 117 15)) - v5), e38)
    else
    some (v3, v4)).bind fun w46 =>
    f_X12_join_L83 q1 q2 D n w46.1 w46.2 (v5 + (1 : Int32))
def f_X12_join_L232 (q1 : Int32) (q2 : Int32) (q3 : Int32) : Nat → Int32 → am_D → Option (am_D)
  | 0, _, _ => none
  | n + 1, v5, D =>
    if q3 ≤ v5 then
    some (D)
    else
    (am_gA 5 q1).bind fun j54 =>
    (am_gI D (134 + j54) 600 v5).bind fun x56 =>
    (am_pI D 119 600 v5 x56).bind fun D58 =>
    f_X12_join_L232 q1 q2 q3 n (v5 + (1 : Int32)) D58
def f_X12_join_L263 (q1 : Int32) (q2 : Int32) (q3 : Int32) : Nat → Int32 → am_D → Option (am_D)
  | 0, _, _ => none
  | n + 1, v5, D =>
    (am_gI D 139 5 q2).bind fun x61 =>
    if x61 ≤ v5 then
    some (D)
    else
    (if (D.1 117 15) ≤ v5 then
    (am_gA 5 q2).bind fun j66 =>
    (am_gI D (134 + j66) 600 v5).bind fun x68 =>
    some (x68)
    else
    (am_gA 5 q1).bind fun j70 =>
    (am_gI D (134 + j70) 600 (q3 + v5)).bind fun x72 =>
    (am_gA 5 q2).bind fun j74 =>
    (am_gI D (134 + j74) 600 v5).bind fun x76 =>
    (am_dv ((x72 * ((D.1 117 15) - v5)) + (x76 * v5)) (D.1 117 15)).bind fun x78 =>
    some (x78)).bind fun w80 =>
    (am_pI D 119 600 (q3 + v5) w80).bind fun D81 =>
    f_X12_join_L263 q1 q2 q3 n (v5 + (1 : Int32)) D81
def f_X12_join (p1 : Int32) (p2 : Int32) (D : am_D) : Option ((Int32 × am_D)) :=
    (some (am_wI D 117 0 (0 : Int32))).bind fun D1 =>
    (f_X12_isSound p1 D1).bind fun x4 =>
    (if x4 = 0 then
    some ((1 : Int32))
    else
    (f_X12_isSound p2 D1).bind fun x8 =>
    if x8 = 0 then
    some ((1 : Int32))
    else
    some ((0 : Int32))).bind fun w10 =>
    (f_X12_bad w10 (1 : Int32) D1).bind fun x12 =>
    if x12.1 = 0 then
    if (x12.2.1 117 12) = (5 : Int32) then
    some ((-1 : Int32), x12.2)
    else
    (am_gI x12.2 139 5 p1).bind fun x15 =>
    if x15 < (x12.2.1 117 15) then
    some ((-2 : Int32), x12.2)
    else
    (am_gI x12.2 139 5 p2).bind fun x18 =>
    if (x12.2.1 117 15) ≤ x18 then
    (f_X12_join_L83 p1 p2 x12.2 am_fu (-1 : Int32) (0 : Int32) (0 : Int32)).bind fun e49 =>
    (am_gI x12.2 139 5 p2).bind fun x50 =>
    if (e49 + x50) ≤ (600 : Int32) then
    (f_X12_join_L232 p1 p2 e49 am_fu (0 : Int32) x12.2).bind fun e60 =>
    (f_X12_join_L263 p1 p2 e49 am_fu (0 : Int32) e60).bind fun e84 =>
    (am_gI e84 139 5 p2).bind fun x85 =>
    (f_X12_keeps 119 (e49 + x85) e84).bind fun x88 =>
    some (x88.1, x88.2)
    else
    some ((-2 : Int32), x12.2)
    else
    some ((-2 : Int32), x12.2)
    else
    some ((0 : Int32), x12.2)
set_option maxRecDepth 100000 in
set_option maxHeartbeats 4000000 in
theorem l_X12_join_L115 {E : am_E} (hE : am_EH E) {d mc ms : Nat} {o : am_O} {G2 : am_G} {D2 : am_D} (hdp : 3 ≤ d) {q1 : Int32} {q2 : Int32} {q3 : Int32} {q4 : Int32} {q5 : Int32} {D : am_D}  : ∀ (n : Nat) (v6 : Int32) (v7 : Int32) (ex0 : Int32), f_X12_join_L115 q1 q2 q3 q4 q5 D n v6 v7 = some ex0 → (∀ ex : Int32, ex0 = ex → am_S E mX12_join d mc ms o G2 D2 0 0 172 [(0, .ref 117), (1, .int q1), (2, .int q2), (3, .int q3), (4, .int q4), (5, .int q5), (6, .int ex)] [] am_G0 D) → am_S E mX12_join d mc ms o G2 D2 0 0 115 [(0, .ref 117), (1, .int q1), (2, .int q2), (3, .int q3), (4, .int q4), (5, .int q5), (6, .int v6), (7, .int v7)] [] am_G0 D
  | 0, _, _, _, hf, _ => by
    unfold f_X12_join_L115 at hf
    cases hf
  | n + 1, v6, v7, ex0, hf, hk0 => by
    unfold f_X12_join_L115 at hf
    refine am_iload (am_dec tmX12_join_1 6 rfl) rfl ?_
    refine am_aload_n (am_dec tmX12_join_1 7 rfl) rfl rfl ?_
    refine am_getI (j := 15) hE (am_dec tmX12_join_1 8 rfl) sh_117 cf12 (by decide) rfl lf_X12_28 ?_
    refine am_icmp_ge (tgt := 172) (am_dec tmX12_join_1 9 rfl) (by decide) (fun c25 => ?_) (fun c25 => ?_)
    · rw [if_pos c25] at hf
      have hf := Option.some.inj hf
      subst hf
      exact am_pick [0, 1, 2, 3, 4, 5, 6] rfl (hk0 _ rfl)
    · rw [if_neg c25] at hf
      refine am_iload (am_dec tmX12_join_1 10 rfl) rfl ?_
      refine am_aload_n (am_dec tmX12_join_1 11 rfl) rfl rfl ?_
      refine am_getR (j := 24) hE (am_dec tmX12_join_1 12 rfl) sh_117 cf12 (by decide) rfl lf_X12_43 rf_117_24 ?_
      refine am_iload_n (am_dec tmX12_join_1 13 rfl) rfl rfl ?_
      obtain ⟨j26, g27, hf⟩ := am_bd hf
      have hj_j26 := (am_gA_lt g27).1
      refine am_aald2 (t := 6) hE (am_dec tmX12_join_1 14 rfl) sh_133 (by decide) rfl rfl g27 (rr_133 hj_j26) ?_
      refine am_aload_n (am_dec tmX12_join_1 15 rfl) rfl rfl ?_
      refine am_getR (j := 25) hE (am_dec tmX12_join_1 16 rfl) sh_117 cf12 (by decide) rfl lf_X12_46 rf_117_25 ?_
      refine am_iload_n (am_dec tmX12_join_1 17 rfl) rfl rfl ?_
      obtain ⟨x28, g29, hf⟩ := am_bd hf
      refine am_iald2 hE (am_dec tmX12_join_1 18 rfl) sh_139 g29 ?_
      refine am_aload_n (am_dec tmX12_join_1 19 rfl) rfl rfl ?_
      refine am_getI (j := 15) hE (am_dec tmX12_join_1 20 rfl) sh_117 cf12 (by decide) rfl lf_X12_28 ?_
      refine am_isub (am_dec tmX12_join_1 21 rfl) ?_
      refine am_iload (am_dec tmX12_join_1 22 rfl) rfl ?_
      refine am_isub (am_dec tmX12_join_1 23 rfl) ?_
      refine am_iload (am_dec tmX12_join_1 24 rfl) rfl ?_
      refine am_iadd (am_dec tmX12_join_1 25 rfl) ?_
      obtain ⟨x30, g31, hf⟩ := am_bd hf
      refine am_iald2 hE (am_dec tmX12_join_1 26 rfl) (sa_133_0 hj_j26) g31 ?_
      refine am_aload_n (am_dec tmX12_join_1 27 rfl) rfl rfl ?_
      refine am_getR (j := 24) hE (am_dec tmX12_join_1 28 rfl) sh_117 cf12 (by decide) rfl lf_X12_43 rf_117_24 ?_
      refine am_iload_n (am_dec tmX12_join_1 29 rfl) rfl rfl ?_
      obtain ⟨j32, g33, hf⟩ := am_bd hf
      have hj_j32 := (am_gA_lt g33).1
      refine am_aald2 (t := 6) hE (am_dec tmX12_join_1 30 rfl) sh_133 (by decide) rfl rfl g33 (rr_133 hj_j32) ?_
      refine am_iload (am_dec tmX12_join_1 31 rfl) rfl ?_
      obtain ⟨x34, g35, hf⟩ := am_bd hf
      refine am_iald2 hE (am_dec tmX12_join_1 32 rfl) (sa_133_0 hj_j32) g35 ?_
      refine am_isub (am_dec tmX12_join_1 33 rfl) ?_
      obtain ⟨x37, g36, hf⟩ := am_bd hf
      refine am_callS1 (As := [.int (x30 - x34)]) (st := [.int v6]) (am_dec tmX12_join_1 34 rfl) ok_X12_amount rfl lm_X12_281 st_X12_amount (c_X12_amount hE g36) rfl (Nat.lt_of_lt_of_le (by decide) hdp) (Nat.le_of_ble_eq_true rfl) (Nat.zero_le _) (Nat.zero_le _) rfl ?_
      refine am_iadd (am_dec tmX12_join_1 35 rfl) ?_
      refine am_istore (lv' := [(0, .ref 117), (1, .int q1), (2, .int q2), (3, .int q3), (4, .int q4), (5, .int q5), (6, .int (v6 + x37)), (7, .int v7)]) (am_dec tmX12_join_1 36 rfl) (by decide) rfl ?_
      refine am_iinc (v := (1 : Int32)) (lv' := [(0, .ref 117), (1, .int q1), (2, .int q2), (3, .int q3), (4, .int q4), (5, .int q5), (6, .int (v6 + x37)), (7, .int (v7 + (1 : Int32)))]) (am_dec tmX12_join_1 37 rfl) rfl (by decide) (by decide) rfl ?_
      refine am_goto (tgt := 115) (am_dec tmX12_join_1 38 rfl) (by decide) ?_
      exact am_pick [0, 1, 2, 3, 4, 5, 6, 7] rfl (l_X12_join_L115 hE hdp n (v6 + x37) (v7 + (1 : Int32)) ex0 hf hk0)
set_option maxRecDepth 100000 in
set_option maxHeartbeats 4000000 in
theorem l_X12_join_L83 {E : am_E} (hE : am_EH E) {d mc ms : Nat} {o : am_O} {G2 : am_G} {D2 : am_D} (hdp : 3 ≤ d) {q1 : Int32} {q2 : Int32} {D : am_D}  : ∀ (n : Nat) (v3 : Int32) (v4 : Int32) (v5 : Int32) (ex0 : Int32), f_X12_join_L83 q1 q2 D n v3 v4 v5 = some ex0 → (∀ ex : Int32, ex0 = ex → am_S E mX12_join d mc ms o G2 D2 0 0 212 [(0, .ref 117), (1, .int q1), (2, .int q2), (3, .int ex)] [] am_G0 D) → am_S E mX12_join d mc ms o G2 D2 0 0 83 [(0, .ref 117), (1, .int q1), (2, .int q2), (3, .int v3), (4, .int v4), (5, .int v5)] [] am_G0 D
  | 0, _, _, _, _, hf, _ => by
    unfold f_X12_join_L83 at hf
    cases hf
  | n + 1, v3, v4, v5, ex0, hf, hk0 => by
    unfold f_X12_join_L83 at hf
    refine am_iload (am_dec tmX12_join_0 48 rfl) rfl ?_
    refine am_aload_n (am_dec tmX12_join_0 49 rfl) rfl rfl ?_
    refine am_getI (j := 16) hE (am_dec tmX12_join_0 50 rfl) sh_117 cf12 (by decide) rfl lf_X12_31 ?_
    refine am_icmp_gt (tgt := 212) (am_dec tmX12_join_0 51 rfl) (by decide) (fun c21 => ?_) (fun c21 => ?_)
    · rw [if_pos c21] at hf
      have hf := Option.some.inj hf
      subst hf
      exact am_pick [0, 1, 2, 3] rfl (hk0 _ rfl)
    · rw [if_neg c21] at hf
      refine am_aload_n (am_dec tmX12_join_0 52 rfl) rfl rfl ?_
      refine am_getR (j := 25) hE (am_dec tmX12_join_0 53 rfl) sh_117 cf12 (by decide) rfl lf_X12_46 rf_117_25 ?_
      refine am_iload_n (am_dec tmX12_join_0 54 rfl) rfl rfl ?_
      obtain ⟨x22, g23, hf⟩ := am_bd hf
      refine am_iald2 hE (am_dec tmX12_join_0 55 rfl) sh_139 g23 ?_
      refine am_aload_n (am_dec tmX12_join_0 56 rfl) rfl rfl ?_
      refine am_getI (j := 15) hE (am_dec tmX12_join_0 57 rfl) sh_117 cf12 (by decide) rfl lf_X12_28 ?_
      refine am_isub (am_dec tmX12_join_0 58 rfl) ?_
      refine am_iload (am_dec tmX12_join_0 59 rfl) rfl ?_
      refine am_isub (am_dec tmX12_join_1 0 rfl) ?_
      refine am_if_lt (tgt := 212) (am_dec tmX12_join_1 1 rfl) (by decide) (fun c24 => ?_) (fun c24 => ?_)
      · rw [if_pos c24] at hf
        have hf := Option.some.inj hf
        subst hf
        exact am_pick [0, 1, 2, 3] rfl (hk0 _ rfl)
      · rw [if_neg c24] at hf
        refine am_iconst (v := (0 : Int32)) (am_dec tmX12_join_1 2 rfl) (by decide) ?_
        refine am_istore (lv' := [(0, .ref 117), (1, .int q1), (2, .int q2), (3, .int v3), (4, .int v4), (5, .int v5), (6, .int (0 : Int32))]) (am_dec tmX12_join_1 3 rfl) (by decide) rfl ?_
        refine am_iconst (v := (0 : Int32)) (am_dec tmX12_join_1 4 rfl) (by decide) ?_
        refine am_istore (lv' := [(0, .ref 117), (1, .int q1), (2, .int q2), (3, .int v3), (4, .int v4), (5, .int v5), (6, .int (0 : Int32)), (7, .int (0 : Int32))]) (am_dec tmX12_join_1 5 rfl) (by decide) rfl ?_
        obtain ⟨e38, g48, hf⟩ := am_bd hf
        refine am_pick [0, 1, 2, 3, 4, 5, 6, 7] rfl (l_X12_join_L115 hE hdp am_fu _ _ _ g48 (fun ex he => ?_))
        subst he
        refine am_iload_n (am_dec tmX12_join_1 39 rfl) rfl rfl ?_
        refine am_iconst (v := (-1 : Int32)) (am_dec tmX12_join_1 40 rfl) (by decide) ?_
        obtain ⟨w46, g47, hf⟩ := am_bd hf
        have key40 : am_S E mX12_join d mc ms o G2 D2 0 0 206 [(0, .ref 117), (1, .int q1), (2, .int q2), (3, .int w46.1), (4, .int w46.2), (5, .int v5)] [] am_G0 D := by
          refine am_iinc (v := (1 : Int32)) (lv' := [(0, .ref 117), (1, .int q1), (2, .int q2), (3, .int w46.1), (4, .int w46.2), (5, .int (v5 + (1 : Int32)))]) (am_dec tmX12_join_1 58 rfl) rfl (by decide) (by decide) rfl ?_
          refine am_goto (tgt := 83) (am_dec tmX12_join_1 59 rfl) (by decide) ?_
          exact am_pick [0, 1, 2, 3, 4, 5] rfl (l_X12_join_L83 hE hdp n w46.1 w46.2 (v5 + (1 : Int32)) ex0 hf hk0)
        replace hf := g47
        refine am_icmp_eq (tgt := 187) (am_dec tmX12_join_1 41 rfl) (by decide) (fun c39 => ?_) (fun c39 => ?_)
        · rw [if_pos c39] at hf
          refine am_aload_n (am_dec tmX12_join_1 46 rfl) rfl rfl ?_
          refine am_getR (j := 25) hE (am_dec tmX12_join_1 47 rfl) sh_117 cf12 (by decide) rfl lf_X12_46 rf_117_25 ?_
          refine am_iload_n (am_dec tmX12_join_1 48 rfl) rfl rfl ?_
          obtain ⟨x41, g42, hf⟩ := am_bd hf
          refine am_iald2 hE (am_dec tmX12_join_1 49 rfl) sh_139 g42 ?_
          refine am_aload_n (am_dec tmX12_join_1 50 rfl) rfl rfl ?_
          refine am_getI (j := 15) hE (am_dec tmX12_join_1 51 rfl) sh_117 cf12 (by decide) rfl lf_X12_28 ?_
          refine am_isub (am_dec tmX12_join_1 52 rfl) ?_
          refine am_iload (am_dec tmX12_join_1 53 rfl) rfl ?_
          refine am_isub (am_dec tmX12_join_1 54 rfl) ?_
          refine am_istore_n (lv' := [(0, .ref 117), (1, .int q1), (2, .int q2), (3, .int ((x41 - (D.1 117 15)) - v5)), (4, .int v4), (5, .int v5), (6, .int e38)]) (am_dec tmX12_join_1 55 rfl) rfl (by decide) rfl ?_
          refine am_iload (am_dec tmX12_join_1 56 rfl) rfl ?_
          refine am_istore (lv' := [(0, .ref 117), (1, .int q1), (2, .int q2), (3, .int ((x41 - (D.1 117 15)) - v5)), (4, .int e38), (5, .int v5), (6, .int e38)]) (am_dec tmX12_join_1 57 rfl) (by decide) rfl ?_
          have hf := Option.some.inj hf
          subst hf
          exact am_pick [0, 1, 2, 3, 4, 5] rfl key40
        · rw [if_neg c39] at hf
          refine am_iload (am_dec tmX12_join_1 42 rfl) rfl ?_
          refine am_iload (am_dec tmX12_join_1 43 rfl) rfl ?_
          refine am_icmp_lt (tgt := 187) (am_dec tmX12_join_1 44 rfl) (by decide) (fun c43 => ?_) (fun c43 => ?_)
          · rw [if_pos c43] at hf
            refine am_aload_n (am_dec tmX12_join_1 46 rfl) rfl rfl ?_
            refine am_getR (j := 25) hE (am_dec tmX12_join_1 47 rfl) sh_117 cf12 (by decide) rfl lf_X12_46 rf_117_25 ?_
            refine am_iload_n (am_dec tmX12_join_1 48 rfl) rfl rfl ?_
            obtain ⟨x44, g45, hf⟩ := am_bd hf
            refine am_iald2 hE (am_dec tmX12_join_1 49 rfl) sh_139 g45 ?_
            refine am_aload_n (am_dec tmX12_join_1 50 rfl) rfl rfl ?_
            refine am_getI (j := 15) hE (am_dec tmX12_join_1 51 rfl) sh_117 cf12 (by decide) rfl lf_X12_28 ?_
            refine am_isub (am_dec tmX12_join_1 52 rfl) ?_
            refine am_iload (am_dec tmX12_join_1 53 rfl) rfl ?_
            refine am_isub (am_dec tmX12_join_1 54 rfl) ?_
            refine am_istore_n (lv' := [(0, .ref 117), (1, .int q1), (2, .int q2), (3, .int ((x44 - (D.1 117 15)) - v5)), (4, .int v4), (5, .int v5), (6, .int e38)]) (am_dec tmX12_join_1 55 rfl) rfl (by decide) rfl ?_
            refine am_iload (am_dec tmX12_join_1 56 rfl) rfl ?_
            refine am_istore (lv' := [(0, .ref 117), (1, .int q1), (2, .int q2), (3, .int ((x44 - (D.1 117 15)) - v5)), (4, .int e38), (5, .int v5), (6, .int e38)]) (am_dec tmX12_join_1 57 rfl) (by decide) rfl ?_
            have hf := Option.some.inj hf
            subst hf
            exact am_pick [0, 1, 2, 3, 4, 5] rfl key40
          · rw [if_neg c43] at hf
            refine am_goto (tgt := 206) (am_dec tmX12_join_1 45 rfl) (by decide) ?_
            have hf := Option.some.inj hf
            subst hf
            exact am_pick [0, 1, 2, 3, 4, 5] rfl key40
set_option maxRecDepth 100000 in
set_option maxHeartbeats 4000000 in
theorem l_X12_join_L232 {E : am_E} (hE : am_EH E) {d mc ms : Nat} {o : am_O} {G2 : am_G} {D2 : am_D} (hdp : 3 ≤ d) {q1 : Int32} {q2 : Int32} {q3 : Int32}  : ∀ (n : Nat) (v5 : Int32) (D : am_D) (ex0 : am_D), f_X12_join_L232 q1 q2 q3 n v5 D = some ex0 → (∀ ex : am_D, ex0 = ex → am_S E mX12_join d mc ms o G2 D2 0 0 260 [(0, .ref 117), (1, .int q1), (2, .int q2), (3, .int q3)] [] am_G0 ex) → am_S E mX12_join d mc ms o G2 D2 0 0 232 [(0, .ref 117), (1, .int q1), (2, .int q2), (3, .int q3), (5, .int v5)] [] am_G0 D
  | 0, _, _, _, hf, _ => by
    unfold f_X12_join_L232 at hf
    cases hf
  | n + 1, v5, D, ex0, hf, hk0 => by
    unfold f_X12_join_L232 at hf
    refine am_iload (am_dec tmX12_join_2 12 rfl) rfl ?_
    refine am_iload_n (am_dec tmX12_join_2 13 rfl) rfl rfl ?_
    refine am_icmp_ge (tgt := 260) (am_dec tmX12_join_2 14 rfl) (by decide) (fun c53 => ?_) (fun c53 => ?_)
    · rw [if_pos c53] at hf
      have hf := Option.some.inj hf
      subst hf
      exact am_pick [0, 1, 2, 3] rfl (hk0 _ rfl)
    · rw [if_neg c53] at hf
      refine am_aload_n (am_dec tmX12_join_2 15 rfl) rfl rfl ?_
      refine am_getR (j := 10) hE (am_dec tmX12_join_2 16 rfl) sh_117 cf12 (by decide) rfl lf_X12_17 rf_117_10 ?_
      refine am_iload (am_dec tmX12_join_2 17 rfl) rfl ?_
      refine am_aload_n (am_dec tmX12_join_2 18 rfl) rfl rfl ?_
      refine am_getR (j := 24) hE (am_dec tmX12_join_2 19 rfl) sh_117 cf12 (by decide) rfl lf_X12_43 rf_117_24 ?_
      refine am_iload_n (am_dec tmX12_join_2 20 rfl) rfl rfl ?_
      obtain ⟨j54, g55, hf⟩ := am_bd hf
      have hj_j54 := (am_gA_lt g55).1
      refine am_aald2 (t := 6) hE (am_dec tmX12_join_2 21 rfl) sh_133 (by decide) rfl rfl g55 (rr_133 hj_j54) ?_
      refine am_iload (am_dec tmX12_join_2 22 rfl) rfl ?_
      obtain ⟨x56, g57, hf⟩ := am_bd hf
      refine am_iald2 hE (am_dec tmX12_join_2 23 rfl) (sa_133_0 hj_j54) g57 ?_
      obtain ⟨D58, g59, hf⟩ := am_bd hf
      refine am_iast2 hE (am_dec tmX12_join_2 24 rfl) sh_119 g59 ?_
      refine am_iinc (v := (1 : Int32)) (lv' := [(0, .ref 117), (1, .int q1), (2, .int q2), (3, .int q3), (5, .int (v5 + (1 : Int32)))]) (am_dec tmX12_join_2 25 rfl) rfl (by decide) (by decide) rfl ?_
      refine am_goto (tgt := 232) (am_dec tmX12_join_2 26 rfl) (by decide) ?_
      exact am_pick [0, 1, 2, 3, 4] rfl (l_X12_join_L232 hE hdp n (v5 + (1 : Int32)) D58 ex0 hf hk0)
set_option maxRecDepth 100000 in
set_option maxHeartbeats 4000000 in
theorem l_X12_join_L263 {E : am_E} (hE : am_EH E) {d mc ms : Nat} {o : am_O} {G2 : am_G} {D2 : am_D} (hdp : 3 ≤ d) {q1 : Int32} {q2 : Int32} {q3 : Int32}  : ∀ (n : Nat) (v5 : Int32) (D : am_D) (ex0 : am_D), f_X12_join_L263 q1 q2 q3 n v5 D = some ex0 → (∀ ex : am_D, ex0 = ex → am_S E mX12_join d mc ms o G2 D2 0 0 347 [(0, .ref 117), (2, .int q2), (3, .int q3)] [] am_G0 ex) → am_S E mX12_join d mc ms o G2 D2 0 0 263 [(0, .ref 117), (1, .int q1), (2, .int q2), (3, .int q3), (5, .int v5)] [] am_G0 D
  | 0, _, _, _, hf, _ => by
    unfold f_X12_join_L263 at hf
    cases hf
  | n + 1, v5, D, ex0, hf, hk0 => by
    unfold f_X12_join_L263 at hf
    refine am_iload (am_dec tmX12_join_2 29 rfl) rfl ?_
    refine am_aload_n (am_dec tmX12_join_2 30 rfl) rfl rfl ?_
    refine am_getR (j := 25) hE (am_dec tmX12_join_2 31 rfl) sh_117 cf12 (by decide) rfl lf_X12_46 rf_117_25 ?_
    refine am_iload_n (am_dec tmX12_join_2 32 rfl) rfl rfl ?_
    obtain ⟨x61, g62, hf⟩ := am_bd hf
    refine am_iald2 hE (am_dec tmX12_join_2 33 rfl) sh_139 g62 ?_
    refine am_icmp_ge (tgt := 347) (am_dec tmX12_join_2 34 rfl) (by decide) (fun c63 => ?_) (fun c63 => ?_)
    · rw [if_pos c63] at hf
      have hf := Option.some.inj hf
      subst hf
      exact am_pick [0, 2, 3] rfl (hk0 _ rfl)
    · rw [if_neg c63] at hf
      refine am_aload_n (am_dec tmX12_join_2 35 rfl) rfl rfl ?_
      refine am_getR (j := 10) hE (am_dec tmX12_join_2 36 rfl) sh_117 cf12 (by decide) rfl lf_X12_17 rf_117_10 ?_
      refine am_iload_n (am_dec tmX12_join_2 37 rfl) rfl rfl ?_
      refine am_iload (am_dec tmX12_join_2 38 rfl) rfl ?_
      refine am_iadd (am_dec tmX12_join_2 39 rfl) ?_
      refine am_iload (am_dec tmX12_join_2 40 rfl) rfl ?_
      refine am_aload_n (am_dec tmX12_join_2 41 rfl) rfl rfl ?_
      refine am_getI (j := 15) hE (am_dec tmX12_join_2 42 rfl) sh_117 cf12 (by decide) rfl lf_X12_28 ?_
      obtain ⟨w80, g83, hf⟩ := am_bd hf
      have key65 : am_S E mX12_join d mc ms o G2 D2 0 0 340 [(0, .ref 117), (1, .int q1), (2, .int q2), (3, .int q3), (5, .int v5)] [.int w80, .int (q3 + v5), .ref 119] am_G0 D := by
        obtain ⟨D81, g82, hf⟩ := am_bd hf
        refine am_iast2 hE (am_dec tmX12_join_3 16 rfl) sh_119 g82 ?_
        refine am_iinc (v := (1 : Int32)) (lv' := [(0, .ref 117), (1, .int q1), (2, .int q2), (3, .int q3), (5, .int (v5 + (1 : Int32)))]) (am_dec tmX12_join_3 17 rfl) rfl (by decide) (by decide) rfl ?_
        refine am_goto (tgt := 263) (am_dec tmX12_join_3 18 rfl) (by decide) ?_
        exact am_pick [0, 1, 2, 3, 4] rfl (l_X12_join_L263 hE hdp n (v5 + (1 : Int32)) D81 ex0 hf hk0)
      replace hf := g83
      refine am_icmp_ge (tgt := 331) (am_dec tmX12_join_2 43 rfl) (by decide) (fun c64 => ?_) (fun c64 => ?_)
      · rw [if_pos c64] at hf
        refine am_aload_n (am_dec tmX12_join_3 10 rfl) rfl rfl ?_
        refine am_getR (j := 24) hE (am_dec tmX12_join_3 11 rfl) sh_117 cf12 (by decide) rfl lf_X12_43 rf_117_24 ?_
        refine am_iload_n (am_dec tmX12_join_3 12 rfl) rfl rfl ?_
        obtain ⟨j66, g67, hf⟩ := am_bd hf
        have hj_j66 := (am_gA_lt g67).1
        refine am_aald2 (t := 6) hE (am_dec tmX12_join_3 13 rfl) sh_133 (by decide) rfl rfl g67 (rr_133 hj_j66) ?_
        refine am_iload (am_dec tmX12_join_3 14 rfl) rfl ?_
        obtain ⟨x68, g69, hf⟩ := am_bd hf
        refine am_iald2 hE (am_dec tmX12_join_3 15 rfl) (sa_133_0 hj_j66) g69 ?_
        have hf := Option.some.inj hf
        subst hf
        exact am_pick [0, 1, 2, 3, 4] rfl key65
      · rw [if_neg c64] at hf
        refine am_aload_n (am_dec tmX12_join_2 44 rfl) rfl rfl ?_
        refine am_getR (j := 24) hE (am_dec tmX12_join_2 45 rfl) sh_117 cf12 (by decide) rfl lf_X12_43 rf_117_24 ?_
        refine am_iload_n (am_dec tmX12_join_2 46 rfl) rfl rfl ?_
        obtain ⟨j70, g71, hf⟩ := am_bd hf
        have hj_j70 := (am_gA_lt g71).1
        refine am_aald2 (t := 6) hE (am_dec tmX12_join_2 47 rfl) sh_133 (by decide) rfl rfl g71 (rr_133 hj_j70) ?_
        refine am_iload_n (am_dec tmX12_join_2 48 rfl) rfl rfl ?_
        refine am_iload (am_dec tmX12_join_2 49 rfl) rfl ?_
        refine am_iadd (am_dec tmX12_join_2 50 rfl) ?_
        obtain ⟨x72, g73, hf⟩ := am_bd hf
        refine am_iald2 hE (am_dec tmX12_join_2 51 rfl) (sa_133_0 hj_j70) g73 ?_
        refine am_aload_n (am_dec tmX12_join_2 52 rfl) rfl rfl ?_
        refine am_getI (j := 15) hE (am_dec tmX12_join_2 53 rfl) sh_117 cf12 (by decide) rfl lf_X12_28 ?_
        refine am_iload (am_dec tmX12_join_2 54 rfl) rfl ?_
        refine am_isub (am_dec tmX12_join_2 55 rfl) ?_
        refine am_imul (am_dec tmX12_join_2 56 rfl) ?_
        refine am_aload_n (am_dec tmX12_join_2 57 rfl) rfl rfl ?_
        refine am_getR (j := 24) hE (am_dec tmX12_join_2 58 rfl) sh_117 cf12 (by decide) rfl lf_X12_43 rf_117_24 ?_
        refine am_iload_n (am_dec tmX12_join_2 59 rfl) rfl rfl ?_
        obtain ⟨j74, g75, hf⟩ := am_bd hf
        have hj_j74 := (am_gA_lt g75).1
        refine am_aald2 (t := 6) hE (am_dec tmX12_join_3 0 rfl) sh_133 (by decide) rfl rfl g75 (rr_133 hj_j74) ?_
        refine am_iload (am_dec tmX12_join_3 1 rfl) rfl ?_
        obtain ⟨x76, g77, hf⟩ := am_bd hf
        refine am_iald2 hE (am_dec tmX12_join_3 2 rfl) (sa_133_0 hj_j74) g77 ?_
        refine am_iload (am_dec tmX12_join_3 3 rfl) rfl ?_
        refine am_imul (am_dec tmX12_join_3 4 rfl) ?_
        refine am_iadd (am_dec tmX12_join_3 5 rfl) ?_
        refine am_aload_n (am_dec tmX12_join_3 6 rfl) rfl rfl ?_
        refine am_getI (j := 15) hE (am_dec tmX12_join_3 7 rfl) sh_117 cf12 (by decide) rfl lf_X12_28 ?_
        obtain ⟨x78, g79, hf⟩ := am_bd hf
        refine am_idiv2 (am_dec tmX12_join_3 8 rfl) g79 ?_
        refine am_goto (tgt := 340) (am_dec tmX12_join_3 9 rfl) (by decide) ?_
        have hf := Option.some.inj hf
        subst hf
        exact am_pick [0, 1, 2, 3, 4] rfl key65
set_option maxRecDepth 100000 in
set_option maxHeartbeats 4000000 in
theorem c_X12_join {E : am_E} (hE : am_EH E) {p1 : Int32} {p2 : Int32} {D : am_D} {r : (Int32 × am_D)}  (hf : f_X12_join p1 p2 D = some r) : am_C E mX12_join 3 0 0 [.ref 117, .int p1, .int p2] am_G0 D (.inl (some (.int r.1))) am_G0 r.2 := by
  refine am_C_of (by decide +kernel) (Nat.le_of_ble_eq_true rfl) ?_
  change am_S E mX12_join 3 0 0 (.inl (some (.int r.1))) am_G0 r.2 0 0 0 [(0, .ref 117), (1, .int p1), (2, .int p2)] [] am_G0 D
  unfold f_X12_join at hf
  refine am_aload_n (am_dec tmX12_join_0 0 rfl) rfl rfl ?_
  refine am_iconst (v := (0 : Int32)) (am_dec tmX12_join_0 1 rfl) (by decide) ?_
  obtain ⟨D1, g2, hf⟩ := am_bd hf
  refine am_putI2 (j := 0) hE (am_dec tmX12_join_0 2 rfl) sh_117 cf12 (by decide) rfl lf_X12_110 rfl rfl rfl g2 ?_
  refine am_aload_n (am_dec tmX12_join_0 3 rfl) rfl rfl ?_
  refine am_aload_n (am_dec tmX12_join_0 4 rfl) rfl rfl ?_
  refine am_iload_n (am_dec tmX12_join_0 5 rfl) rfl rfl ?_
  obtain ⟨x4, g3, hf⟩ := am_bd hf
  refine am_callV1 (As := [.int p1]) (st := [.ref 117]) hE (am_dec tmX12_join_0 6 rfl) ok_X12_isSound rfl lm_X12_217 in_X12_isSound se_X12_isSound sh_117 cf12 (c_X12_isSound hE g3) rfl (by decide) (Nat.le_of_ble_eq_true rfl) (Nat.zero_le _) (Nat.zero_le _) rfl ?_
  obtain ⟨w10, g92, hf⟩ := am_bd hf
  have key6 : am_S E mX12_join 3 0 0 (.inl (some (.int r.1))) am_G0 r.2 0 0 27 [(0, .ref 117), (1, .int p1), (2, .int p2)] [.int w10, .ref 117] am_G0 D1 := by
    refine am_iconst (v := (1 : Int32)) (am_dec tmX12_join_0 15 rfl) (by decide) ?_
    obtain ⟨x12, g11, hf⟩ := am_bd hf
    refine am_callV1 (As := [.int w10, .int (1 : Int32)]) (st := []) hE (am_dec tmX12_join_0 16 rfl) ok_X12_bad rfl lm_X12_191 in_X12_bad se_X12_bad sh_117 cf12 (c_X12_bad hE g11) rfl (by decide) (Nat.le_of_ble_eq_true rfl) (Nat.zero_le _) (Nat.zero_le _) rfl ?_
    refine am_if_eq (tgt := 36) (am_dec tmX12_join_0 17 rfl) (by decide) (fun c13 => ?_) (fun c13 => ?_)
    · rw [if_pos c13] at hf
      refine am_aload_n (am_dec tmX12_join_0 20 rfl) rfl rfl ?_
      refine am_getI (j := 12) hE (am_dec tmX12_join_0 21 rfl) sh_117 cf12 (by decide) rfl lf_X12_195 ?_
      refine am_iconst (v := (5 : Int32)) (am_dec tmX12_join_0 22 rfl) (by decide) ?_
      refine am_icmp_ne (tgt := 46) (am_dec tmX12_join_0 23 rfl) (by decide) (fun c14 => ?_) (fun c14 => ?_)
      · rw [if_neg c14] at hf
        refine am_aload_n (am_dec tmX12_join_0 26 rfl) rfl rfl ?_
        refine am_getR (j := 25) hE (am_dec tmX12_join_0 27 rfl) sh_117 cf12 (by decide) rfl lf_X12_46 rf_117_25 ?_
        refine am_iload_n (am_dec tmX12_join_0 28 rfl) rfl rfl ?_
        obtain ⟨x15, g16, hf⟩ := am_bd hf
        refine am_iald2 hE (am_dec tmX12_join_0 29 rfl) sh_139 g16 ?_
        refine am_aload_n (am_dec tmX12_join_0 30 rfl) rfl rfl ?_
        refine am_getI (j := 15) hE (am_dec tmX12_join_0 31 rfl) sh_117 cf12 (by decide) rfl lf_X12_28 ?_
        refine am_icmp_lt (tgt := 72) (am_dec tmX12_join_0 32 rfl) (by decide) (fun c17 => ?_) (fun c17 => ?_)
        · rw [if_pos c17] at hf
          refine am_bipush (v := (-2 : Int32)) (am_dec tmX12_join_0 40 rfl) (by decide) ?_
          have hf := Option.some.inj hf
          subst hf
          exact am_iret (am_dec tmX12_join_0 41 rfl) rfl (Nat.zero_le _) (Nat.zero_le _)
        · rw [if_neg c17] at hf
          refine am_aload_n (am_dec tmX12_join_0 33 rfl) rfl rfl ?_
          refine am_getR (j := 25) hE (am_dec tmX12_join_0 34 rfl) sh_117 cf12 (by decide) rfl lf_X12_46 rf_117_25 ?_
          refine am_iload_n (am_dec tmX12_join_0 35 rfl) rfl rfl ?_
          obtain ⟨x18, g19, hf⟩ := am_bd hf
          refine am_iald2 hE (am_dec tmX12_join_0 36 rfl) sh_139 g19 ?_
          refine am_aload_n (am_dec tmX12_join_0 37 rfl) rfl rfl ?_
          refine am_getI (j := 15) hE (am_dec tmX12_join_0 38 rfl) sh_117 cf12 (by decide) rfl lf_X12_28 ?_
          refine am_icmp_ge (tgt := 75) (am_dec tmX12_join_0 39 rfl) (by decide) (fun c20 => ?_) (fun c20 => ?_)
          · rw [if_pos c20] at hf
            refine am_iconst (v := (-1 : Int32)) (am_dec tmX12_join_0 42 rfl) (by decide) ?_
            refine am_istore_n (lv' := [(0, .ref 117), (1, .int p1), (2, .int p2), (3, .int (-1 : Int32))]) (am_dec tmX12_join_0 43 rfl) rfl (by decide) rfl ?_
            refine am_iconst (v := (0 : Int32)) (am_dec tmX12_join_0 44 rfl) (by decide) ?_
            refine am_istore (lv' := [(0, .ref 117), (1, .int p1), (2, .int p2), (3, .int (-1 : Int32)), (4, .int (0 : Int32))]) (am_dec tmX12_join_0 45 rfl) (by decide) rfl ?_
            refine am_iconst (v := (0 : Int32)) (am_dec tmX12_join_0 46 rfl) (by decide) ?_
            refine am_istore (lv' := [(0, .ref 117), (1, .int p1), (2, .int p2), (3, .int (-1 : Int32)), (4, .int (0 : Int32)), (5, .int (0 : Int32))]) (am_dec tmX12_join_0 47 rfl) (by decide) rfl ?_
            obtain ⟨e49, g91, hf⟩ := am_bd hf
            refine am_pick [0, 1, 2, 3, 4, 5] rfl (l_X12_join_L83 hE (Nat.le_refl _) am_fu _ _ _ _ g91 (fun ex he => ?_))
            subst he
            refine am_iload_n (am_dec tmX12_join_2 0 rfl) rfl rfl ?_
            refine am_aload_n (am_dec tmX12_join_2 1 rfl) rfl rfl ?_
            refine am_getR (j := 25) hE (am_dec tmX12_join_2 2 rfl) sh_117 cf12 (by decide) rfl lf_X12_46 rf_117_25 ?_
            refine am_iload_n (am_dec tmX12_join_2 3 rfl) rfl rfl ?_
            obtain ⟨x50, g51, hf⟩ := am_bd hf
            refine am_iald2 hE (am_dec tmX12_join_2 4 rfl) sh_139 g51 ?_
            refine am_iadd (am_dec tmX12_join_2 5 rfl) ?_
            refine am_sipush (v := (600 : Int32)) (am_dec tmX12_join_2 6 rfl) (by decide) ?_
            refine am_icmp_le (tgt := 229) (am_dec tmX12_join_2 7 rfl) (by decide) (fun c52 => ?_) (fun c52 => ?_)
            · rw [if_pos c52] at hf
              refine am_iconst (v := (0 : Int32)) (am_dec tmX12_join_2 10 rfl) (by decide) ?_
              refine am_istore (lv' := [(0, .ref 117), (1, .int p1), (2, .int p2), (3, .int e49), (5, .int (0 : Int32))]) (am_dec tmX12_join_2 11 rfl) (by decide) rfl ?_
              obtain ⟨e60, g90, hf⟩ := am_bd hf
              refine am_pick [0, 1, 2, 3, 4] rfl (l_X12_join_L232 hE (Nat.le_refl _) am_fu _ _ _ g90 (fun ex he => ?_))
              subst he
              refine am_iconst (v := (0 : Int32)) (am_dec tmX12_join_2 27 rfl) (by decide) ?_
              refine am_istore (lv' := [(0, .ref 117), (1, .int p1), (2, .int p2), (3, .int e49), (5, .int (0 : Int32))]) (am_dec tmX12_join_2 28 rfl) (by decide) rfl ?_
              obtain ⟨e84, g89, hf⟩ := am_bd hf
              refine am_pick [0, 1, 2, 3, 4] rfl (l_X12_join_L263 hE (Nat.le_refl _) am_fu _ _ _ g89 (fun ex he => ?_))
              subst he
              refine am_aload_n (am_dec tmX12_join_3 19 rfl) rfl rfl ?_
              refine am_aload_n (am_dec tmX12_join_3 20 rfl) rfl rfl ?_
              refine am_getR (j := 10) hE (am_dec tmX12_join_3 21 rfl) sh_117 cf12 (by decide) rfl lf_X12_17 rf_117_10 ?_
              refine am_iload_n (am_dec tmX12_join_3 22 rfl) rfl rfl ?_
              refine am_aload_n (am_dec tmX12_join_3 23 rfl) rfl rfl ?_
              refine am_getR (j := 25) hE (am_dec tmX12_join_3 24 rfl) sh_117 cf12 (by decide) rfl lf_X12_46 rf_117_25 ?_
              refine am_iload_n (am_dec tmX12_join_3 25 rfl) rfl rfl ?_
              obtain ⟨x85, g86, hf⟩ := am_bd hf
              refine am_iald2 hE (am_dec tmX12_join_3 26 rfl) sh_139 g86 ?_
              refine am_iadd (am_dec tmX12_join_3 27 rfl) ?_
              obtain ⟨x88, g87, hf⟩ := am_bd hf
              refine am_callV1 (As := [.ref 119, .int (e49 + x85)]) (st := []) hE (am_dec tmX12_join_3 28 rfl) ok_X12_keeps rfl lm_X12_204 in_X12_keeps se_X12_keeps sh_117 cf12 (c_X12_keeps hE (am_shl sh_119) g87) rfl (by decide) (Nat.le_of_ble_eq_true rfl) (Nat.zero_le _) (Nat.zero_le _) rfl ?_
              have hf := Option.some.inj hf
              subst hf
              exact am_iret (am_dec tmX12_join_3 29 rfl) rfl (Nat.zero_le _) (Nat.zero_le _)
            · rw [if_neg c52] at hf
              refine am_bipush (v := (-2 : Int32)) (am_dec tmX12_join_2 8 rfl) (by decide) ?_
              have hf := Option.some.inj hf
              subst hf
              exact am_iret (am_dec tmX12_join_2 9 rfl) rfl (Nat.zero_le _) (Nat.zero_le _)
          · rw [if_neg c20] at hf
            refine am_bipush (v := (-2 : Int32)) (am_dec tmX12_join_0 40 rfl) (by decide) ?_
            have hf := Option.some.inj hf
            subst hf
            exact am_iret (am_dec tmX12_join_0 41 rfl) rfl (Nat.zero_le _) (Nat.zero_le _)
      · rw [if_pos c14] at hf
        refine am_iconst (v := (-1 : Int32)) (am_dec tmX12_join_0 24 rfl) (by decide) ?_
        have hf := Option.some.inj hf
        subst hf
        exact am_iret (am_dec tmX12_join_0 25 rfl) rfl (Nat.zero_le _) (Nat.zero_le _)
    · rw [if_neg c13] at hf
      refine am_iconst (v := (0 : Int32)) (am_dec tmX12_join_0 18 rfl) (by decide) ?_
      have hf := Option.some.inj hf
      subst hf
      exact am_iret (am_dec tmX12_join_0 19 rfl) rfl (Nat.zero_le _) (Nat.zero_le _)
  replace hf := g92
  refine am_if_eq (tgt := 22) (am_dec tmX12_join_0 7 rfl) (by decide) (fun c5 => ?_) (fun c5 => ?_)
  · rw [if_pos c5] at hf
    refine am_iconst (v := (1 : Int32)) (am_dec tmX12_join_0 12 rfl) (by decide) ?_
    refine am_goto (tgt := 27) (am_dec tmX12_join_0 13 rfl) (by decide) ?_
    have hf := Option.some.inj hf
    subst hf
    exact am_pick [0, 1, 2] rfl key6
  · rw [if_neg c5] at hf
    refine am_aload_n (am_dec tmX12_join_0 8 rfl) rfl rfl ?_
    refine am_iload_n (am_dec tmX12_join_0 9 rfl) rfl rfl ?_
    obtain ⟨x8, g7, hf⟩ := am_bd hf
    refine am_callV1 (As := [.int p2]) (st := [.ref 117]) hE (am_dec tmX12_join_0 10 rfl) ok_X12_isSound rfl lm_X12_217 in_X12_isSound se_X12_isSound sh_117 cf12 (c_X12_isSound hE g7) rfl (by decide) (Nat.le_of_ble_eq_true rfl) (Nat.zero_le _) (Nat.zero_le _) rfl ?_
    refine am_if_ne (tgt := 26) (am_dec tmX12_join_0 11 rfl) (by decide) (fun c9 => ?_) (fun c9 => ?_)
    · rw [if_neg c9] at hf
      refine am_iconst (v := (0 : Int32)) (am_dec tmX12_join_0 14 rfl) (by decide) ?_
      have hf := Option.some.inj hf
      subst hf
      exact am_pick [0, 1, 2] rfl key6
    · rw [if_pos c9] at hf
      refine am_iconst (v := (1 : Int32)) (am_dec tmX12_join_0 12 rfl) (by decide) ?_
      refine am_goto (tgt := 27) (am_dec tmX12_join_0 13 rfl) (by decide) ?_
      have hf := Option.some.inj hf
      subst hf
      exact am_pick [0, 1, 2] rfl key6
def f_X12_soundAt (p1 : Int32) (p2 : Int32) (D : am_D) : Option (Int32) :=
    (am_gI D 139 5 p1).bind fun x1 =>
    if x1 ≤ p2 then
    some (0 : Int32)
    else
    (am_gA 5 p1).bind fun j4 =>
    (am_gI D (134 + j4) 600 p2).bind fun x6 =>
    some x6
set_option maxRecDepth 100000 in
set_option maxHeartbeats 4000000 in
theorem c_X12_soundAt {E : am_E} (hE : am_EH E) {p1 : Int32} {p2 : Int32} {D : am_D} {r : Int32}  (hf : f_X12_soundAt p1 p2 D = some r) : am_C E mX12_soundAt 1 0 0 [.ref 117, .int p1, .int p2] am_G0 D (.inl (some (.int r))) am_G0 D := by
  refine am_C_of (by decide +kernel) (Nat.le_of_ble_eq_true rfl) ?_
  change am_S E mX12_soundAt 1 0 0 (.inl (some (.int r))) am_G0 D 0 0 0 [(0, .ref 117), (1, .int p1), (2, .int p2)] [] am_G0 D
  unfold f_X12_soundAt at hf
  refine am_iload_n (am_dec tmX12_soundAt 0 rfl) rfl rfl ?_
  refine am_aload_n (am_dec tmX12_soundAt 1 rfl) rfl rfl ?_
  refine am_getR (j := 25) hE (am_dec tmX12_soundAt 2 rfl) sh_117 cf12 (by decide) rfl lf_X12_46 rf_117_25 ?_
  refine am_iload_n (am_dec tmX12_soundAt 3 rfl) rfl rfl ?_
  obtain ⟨x1, g2, hf⟩ := am_bd hf
  refine am_iald2 hE (am_dec tmX12_soundAt 4 rfl) sh_139 g2 ?_
  refine am_icmp_ge (tgt := 21) (am_dec tmX12_soundAt 5 rfl) (by decide) (fun c3 => ?_) (fun c3 => ?_)
  · rw [if_pos c3] at hf
    refine am_iconst (v := (0 : Int32)) (am_dec tmX12_soundAt 13 rfl) (by decide) ?_
    have hf := Option.some.inj hf
    subst hf
    exact am_iret (am_dec tmX12_soundAt 14 rfl) rfl (Nat.zero_le _) (Nat.zero_le _)
  · rw [if_neg c3] at hf
    refine am_aload_n (am_dec tmX12_soundAt 6 rfl) rfl rfl ?_
    refine am_getR (j := 24) hE (am_dec tmX12_soundAt 7 rfl) sh_117 cf12 (by decide) rfl lf_X12_43 rf_117_24 ?_
    refine am_iload_n (am_dec tmX12_soundAt 8 rfl) rfl rfl ?_
    obtain ⟨j4, g5, hf⟩ := am_bd hf
    have hj_j4 := (am_gA_lt g5).1
    refine am_aald2 (t := 6) hE (am_dec tmX12_soundAt 9 rfl) sh_133 (by decide) rfl rfl g5 (rr_133 hj_j4) ?_
    refine am_iload_n (am_dec tmX12_soundAt 10 rfl) rfl rfl ?_
    obtain ⟨x6, g7, hf⟩ := am_bd hf
    refine am_iald2 hE (am_dec tmX12_soundAt 11 rfl) (sa_133_0 hj_j4) g7 ?_
    refine am_goto (tgt := 22) (am_dec tmX12_soundAt 12 rfl) (by decide) ?_
    have hf := Option.some.inj hf
    subst hf
    exact am_iret (am_dec tmX12_soundAt 14 rfl) rfl (Nat.zero_le _) (Nat.zero_le _)
def f_X12_shift_L115 (q1 : Int32) (q2 : Int32) (q3 : Int32) (q4 : Int32) : Nat → Int32 → am_D → Option (am_D)
  | 0, _, _ => none
  | n + 1, v5, D =>
    if q4 ≤ v5 then
    some (D)
    else
    (am_dv (v5 * q2) q3).bind fun x36 =>
    (am_rm (v5 * q2) q3).bind fun x38 =>
    (f_X12_soundAt q1 x36 D).bind fun x41 =>
    (f_X12_soundAt q1 (x36 + (1 : Int32)) D).bind fun x43 =>
    (am_dv ((x41 * (q3 - x38)) + (x43 * x38)) q3).bind fun x44 =>
    (am_pI D 221 1200 v5 x44).bind fun D46 =>
    f_X12_shift_L115 q1 q2 q3 q4 n (v5 + (1 : Int32)) D46
def f_X12_shift (p1 : Int32) (p2 : Int32) (p3 : Int32) (D : am_D) : Option ((Int32 × am_D)) :=
    (some (am_wI D 117 0 (0 : Int32))).bind fun D1 =>
    (f_X12_isSound p1 D1).bind fun x4 =>
    (if x4 = 0 then
    some ((1 : Int32))
    else
    some ((0 : Int32))).bind fun w7 =>
    (f_X12_bad w7 (1 : Int32) D1).bind fun x9 =>
    if x9.1 = 0 then
    (f_X12_in p2 (1 : Int32) (9 : Int32)).bind fun x12 =>
    (if x12 = 0 then
    some ((1 : Int32))
    else
    (f_X12_in p3 (1 : Int32) (9 : Int32)).bind fun x16 =>
    if x16 = 0 then
    some ((1 : Int32))
    else
    some ((0 : Int32))).bind fun w18 =>
    (f_X12_bad w18 (2 : Int32) x9.2).bind fun x20 =>
    if x20.1 = 0 then
    (am_gI x20.2 139 5 p1).bind fun x22 =>
    (am_dv (x22 * p3) p2).bind fun x24 =>
    (f_X12_within x24 (1 : Int32) (1200 : Int32)).bind fun x27 =>
    (if x27 < (x20.2.1 117 14) then
    some ((1 : Int32))
    else
    if x27 ≤ (600 : Int32) then
    some ((0 : Int32))
    else
    some ((1 : Int32))).bind fun w31 =>
    (f_X12_bad w31 (3 : Int32) x20.2).bind fun x33 =>
    if x33.1 = 0 then
    (f_X12_shift_L115 p1 p2 p3 x27 am_fu (0 : Int32) x33.2).bind fun e48 =>
    (some (am_wI e48 117 36 x27)).bind fun D49 =>
    (some (am_wI D49 117 37 (1 : Int32))).bind fun D51 =>
    (am_pI D51 223 26 (2 : Int32) x27).bind fun D53 =>
    (am_gI D53 139 5 p1).bind fun x55 =>
    (am_pI D53 223 26 (3 : Int32) x55).bind fun D57 =>
    (f_X12_draws D57).bind fun x60 =>
    some ((x60.1 117 39), x60)
    else
    some ((0 : Int32), x33.2)
    else
    some ((0 : Int32), x20.2)
    else
    some ((0 : Int32), x9.2)
set_option maxRecDepth 100000 in
set_option maxHeartbeats 4000000 in
theorem l_X12_shift_L115 {E : am_E} (hE : am_EH E) {d mc ms : Nat} {o : am_O} {G2 : am_G} {D2 : am_D} (hdp : 5 ≤ d) {q1 : Int32} {q2 : Int32} {q3 : Int32} {q4 : Int32}  : ∀ (n : Nat) (v5 : Int32) (D : am_D) (ex0 : am_D), f_X12_shift_L115 q1 q2 q3 q4 n v5 D = some ex0 → (∀ ex : am_D, ex0 = ex → am_S E mX12_shift d mc ms o G2 D2 0 0 178 [(0, .ref 117), (1, .int q1), (4, .int q4)] [] am_G0 ex) → am_S E mX12_shift d mc ms o G2 D2 0 0 115 [(0, .ref 117), (1, .int q1), (2, .int q2), (3, .int q3), (4, .int q4), (5, .int v5)] [] am_G0 D
  | 0, _, _, _, hf, _ => by
    unfold f_X12_shift_L115 at hf
    cases hf
  | n + 1, v5, D, ex0, hf, hk0 => by
    unfold f_X12_shift_L115 at hf
    refine am_iload (am_dec tmX12_shift_1 3 rfl) rfl ?_
    refine am_iload (am_dec tmX12_shift_1 4 rfl) rfl ?_
    refine am_icmp_ge (tgt := 178) (am_dec tmX12_shift_1 5 rfl) (by decide) (fun c35 => ?_) (fun c35 => ?_)
    · rw [if_pos c35] at hf
      have hf := Option.some.inj hf
      subst hf
      exact am_pick [0, 1, 4] rfl (hk0 _ rfl)
    · rw [if_neg c35] at hf
      refine am_iload (am_dec tmX12_shift_1 6 rfl) rfl ?_
      refine am_iload_n (am_dec tmX12_shift_1 7 rfl) rfl rfl ?_
      refine am_imul (am_dec tmX12_shift_1 8 rfl) ?_
      refine am_iload_n (am_dec tmX12_shift_1 9 rfl) rfl rfl ?_
      obtain ⟨x36, g37, hf⟩ := am_bd hf
      refine am_idiv2 (am_dec tmX12_shift_1 10 rfl) g37 ?_
      refine am_istore (lv' := [(0, .ref 117), (1, .int q1), (2, .int q2), (3, .int q3), (4, .int q4), (5, .int v5), (6, .int x36)]) (am_dec tmX12_shift_1 11 rfl) (by decide) rfl ?_
      refine am_iload (am_dec tmX12_shift_1 12 rfl) rfl ?_
      refine am_iload_n (am_dec tmX12_shift_1 13 rfl) rfl rfl ?_
      refine am_imul (am_dec tmX12_shift_1 14 rfl) ?_
      refine am_iload_n (am_dec tmX12_shift_1 15 rfl) rfl rfl ?_
      obtain ⟨x38, g39, hf⟩ := am_bd hf
      refine am_irem2 (am_dec tmX12_shift_1 16 rfl) g39 ?_
      refine am_istore (lv' := [(0, .ref 117), (1, .int q1), (2, .int q2), (3, .int q3), (4, .int q4), (5, .int v5), (6, .int x36), (7, .int x38)]) (am_dec tmX12_shift_1 17 rfl) (by decide) rfl ?_
      refine am_aload_n (am_dec tmX12_shift_1 18 rfl) rfl rfl ?_
      refine am_getR (j := 33) hE (am_dec tmX12_shift_1 19 rfl) sh_117 cf12 (by decide) rfl lf_X12_70 rf_117_33 ?_
      refine am_iload (am_dec tmX12_shift_1 20 rfl) rfl ?_
      refine am_aload_n (am_dec tmX12_shift_1 21 rfl) rfl rfl ?_
      refine am_iload_n (am_dec tmX12_shift_1 22 rfl) rfl rfl ?_
      refine am_iload (am_dec tmX12_shift_1 23 rfl) rfl ?_
      obtain ⟨x41, g40, hf⟩ := am_bd hf
      refine am_callV1 (As := [.int q1, .int x36]) (st := [.int v5, .ref 221]) hE (am_dec tmX12_shift_1 24 rfl) ok_X12_soundAt rfl lm_X12_398 in_X12_soundAt se_X12_soundAt sh_117 cf12 (c_X12_soundAt hE g40) rfl (Nat.lt_of_lt_of_le (by decide) hdp) (Nat.le_of_ble_eq_true rfl) (Nat.zero_le _) (Nat.zero_le _) rfl ?_
      refine am_iload_n (am_dec tmX12_shift_1 25 rfl) rfl rfl ?_
      refine am_iload (am_dec tmX12_shift_1 26 rfl) rfl ?_
      refine am_isub (am_dec tmX12_shift_1 27 rfl) ?_
      refine am_imul (am_dec tmX12_shift_1 28 rfl) ?_
      refine am_aload_n (am_dec tmX12_shift_1 29 rfl) rfl rfl ?_
      refine am_iload_n (am_dec tmX12_shift_1 30 rfl) rfl rfl ?_
      refine am_iload (am_dec tmX12_shift_1 31 rfl) rfl ?_
      refine am_iconst (v := (1 : Int32)) (am_dec tmX12_shift_1 32 rfl) (by decide) ?_
      refine am_iadd (am_dec tmX12_shift_1 33 rfl) ?_
      obtain ⟨x43, g42, hf⟩ := am_bd hf
      refine am_callV1 (As := [.int q1, .int (x36 + (1 : Int32))]) (st := [.int (x41 * (q3 - x38)), .int v5, .ref 221]) hE (am_dec tmX12_shift_1 34 rfl) ok_X12_soundAt rfl lm_X12_398 in_X12_soundAt se_X12_soundAt sh_117 cf12 (c_X12_soundAt hE g42) rfl (Nat.lt_of_lt_of_le (by decide) hdp) (Nat.le_of_ble_eq_true rfl) (Nat.zero_le _) (Nat.zero_le _) rfl ?_
      refine am_iload (am_dec tmX12_shift_1 35 rfl) rfl ?_
      refine am_imul (am_dec tmX12_shift_1 36 rfl) ?_
      refine am_iadd (am_dec tmX12_shift_1 37 rfl) ?_
      refine am_iload_n (am_dec tmX12_shift_1 38 rfl) rfl rfl ?_
      obtain ⟨x44, g45, hf⟩ := am_bd hf
      refine am_idiv2 (am_dec tmX12_shift_1 39 rfl) g45 ?_
      obtain ⟨D46, g47, hf⟩ := am_bd hf
      refine am_iast2 hE (am_dec tmX12_shift_1 40 rfl) sh_221 g47 ?_
      refine am_iinc (v := (1 : Int32)) (lv' := [(0, .ref 117), (1, .int q1), (2, .int q2), (3, .int q3), (4, .int q4), (5, .int (v5 + (1 : Int32))), (6, .int x36), (7, .int x38)]) (am_dec tmX12_shift_1 41 rfl) rfl (by decide) (by decide) rfl ?_
      refine am_goto (tgt := 115) (am_dec tmX12_shift_1 42 rfl) (by decide) ?_
      exact am_pick [0, 1, 2, 3, 4, 5] rfl (l_X12_shift_L115 hE hdp n (v5 + (1 : Int32)) D46 ex0 hf hk0)
set_option maxRecDepth 100000 in
set_option maxHeartbeats 4000000 in
theorem c_X12_shift {E : am_E} (hE : am_EH E) {p1 : Int32} {p2 : Int32} {p3 : Int32} {D : am_D} {r : (Int32 × am_D)}  (hf : f_X12_shift p1 p2 p3 D = some r) : am_C E mX12_shift 5 0 0 [.ref 117, .int p1, .int p2, .int p3] am_G0 D (.inl (some (.int r.1))) am_G0 r.2 := by
  refine am_C_of (by decide +kernel) (Nat.le_of_ble_eq_true rfl) ?_
  change am_S E mX12_shift 5 0 0 (.inl (some (.int r.1))) am_G0 r.2 0 0 0 [(0, .ref 117), (1, .int p1), (2, .int p2), (3, .int p3)] [] am_G0 D
  unfold f_X12_shift at hf
  refine am_aload_n (am_dec tmX12_shift_0 0 rfl) rfl rfl ?_
  refine am_iconst (v := (0 : Int32)) (am_dec tmX12_shift_0 1 rfl) (by decide) ?_
  obtain ⟨D1, g2, hf⟩ := am_bd hf
  refine am_putI2 (j := 0) hE (am_dec tmX12_shift_0 2 rfl) sh_117 cf12 (by decide) rfl lf_X12_110 rfl rfl rfl g2 ?_
  refine am_aload_n (am_dec tmX12_shift_0 3 rfl) rfl rfl ?_
  refine am_aload_n (am_dec tmX12_shift_0 4 rfl) rfl rfl ?_
  refine am_iload_n (am_dec tmX12_shift_0 5 rfl) rfl rfl ?_
  obtain ⟨x4, g3, hf⟩ := am_bd hf
  refine am_callV1 (As := [.int p1]) (st := [.ref 117]) hE (am_dec tmX12_shift_0 6 rfl) ok_X12_isSound rfl lm_X12_217 in_X12_isSound se_X12_isSound sh_117 cf12 (c_X12_isSound hE g3) rfl (by decide) (Nat.le_of_ble_eq_true rfl) (Nat.zero_le _) (Nat.zero_le _) rfl ?_
  obtain ⟨w7, g64, hf⟩ := am_bd hf
  have key6 : am_S E mX12_shift 5 0 0 (.inl (some (.int r.1))) am_G0 r.2 0 0 19 [(0, .ref 117), (1, .int p1), (2, .int p2), (3, .int p3)] [.int w7, .ref 117] am_G0 D1 := by
    refine am_iconst (v := (1 : Int32)) (am_dec tmX12_shift_0 11 rfl) (by decide) ?_
    obtain ⟨x9, g8, hf⟩ := am_bd hf
    refine am_callV1 (As := [.int w7, .int (1 : Int32)]) (st := []) hE (am_dec tmX12_shift_0 12 rfl) ok_X12_bad rfl lm_X12_191 in_X12_bad se_X12_bad sh_117 cf12 (c_X12_bad hE g8) rfl (by decide) (Nat.le_of_ble_eq_true rfl) (Nat.zero_le _) (Nat.zero_le _) rfl ?_
    refine am_if_ne (tgt := 59) (am_dec tmX12_shift_0 13 rfl) (by decide) (fun c10 => ?_) (fun c10 => ?_)
    · rw [if_neg c10] at hf
      refine am_iconst (v := (0 : Int32)) (am_dec tmX12_shift_0 31 rfl) (by decide) ?_
      have hf := Option.some.inj hf
      subst hf
      exact am_iret (am_dec tmX12_shift_0 32 rfl) rfl (Nat.zero_le _) (Nat.zero_le _)
    · rw [if_pos c10] at hf
      refine am_aload_n (am_dec tmX12_shift_0 14 rfl) rfl rfl ?_
      refine am_iload_n (am_dec tmX12_shift_0 15 rfl) rfl rfl ?_
      refine am_iconst (v := (1 : Int32)) (am_dec tmX12_shift_0 16 rfl) (by decide) ?_
      refine am_bipush (v := (9 : Int32)) (am_dec tmX12_shift_0 17 rfl) (by decide) ?_
      obtain ⟨x12, g11, hf⟩ := am_bd hf
      refine am_callS1 (As := [.int p2, .int (1 : Int32), .int (9 : Int32)]) (st := [.ref 117]) (am_dec tmX12_shift_0 18 rfl) ok_X12_in rfl lm_X12_144 st_X12_in (c_X12_in hE g11) rfl (by decide) (Nat.le_of_ble_eq_true rfl) (Nat.zero_le _) (Nat.zero_le _) rfl ?_
      obtain ⟨w18, g63, hf⟩ := am_bd hf
      have key14 : am_S E mX12_shift 5 0 0 (.inl (some (.int r.1))) am_G0 r.2 0 0 52 [(0, .ref 117), (1, .int p1), (2, .int p2), (3, .int p3)] [.int w18, .ref 117] am_G0 x9.2 := by
        refine am_iconst (v := (2 : Int32)) (am_dec tmX12_shift_0 28 rfl) (by decide) ?_
        obtain ⟨x20, g19, hf⟩ := am_bd hf
        refine am_callV1 (As := [.int w18, .int (2 : Int32)]) (st := []) hE (am_dec tmX12_shift_0 29 rfl) ok_X12_bad rfl lm_X12_191 in_X12_bad se_X12_bad sh_117 cf12 (c_X12_bad hE g19) rfl (by decide) (Nat.le_of_ble_eq_true rfl) (Nat.zero_le _) (Nat.zero_le _) rfl ?_
        refine am_if_eq (tgt := 61) (am_dec tmX12_shift_0 30 rfl) (by decide) (fun c21 => ?_) (fun c21 => ?_)
        · rw [if_pos c21] at hf
          refine am_aload_n (am_dec tmX12_shift_0 33 rfl) rfl rfl ?_
          refine am_getR (j := 25) hE (am_dec tmX12_shift_0 34 rfl) sh_117 cf12 (by decide) rfl lf_X12_46 rf_117_25 ?_
          refine am_iload_n (am_dec tmX12_shift_0 35 rfl) rfl rfl ?_
          obtain ⟨x22, g23, hf⟩ := am_bd hf
          refine am_iald2 hE (am_dec tmX12_shift_0 36 rfl) sh_139 g23 ?_
          refine am_iload_n (am_dec tmX12_shift_0 37 rfl) rfl rfl ?_
          refine am_imul (am_dec tmX12_shift_0 38 rfl) ?_
          refine am_iload_n (am_dec tmX12_shift_0 39 rfl) rfl rfl ?_
          obtain ⟨x24, g25, hf⟩ := am_bd hf
          refine am_idiv2 (am_dec tmX12_shift_0 40 rfl) g25 ?_
          refine am_iconst (v := (1 : Int32)) (am_dec tmX12_shift_0 41 rfl) (by decide) ?_
          refine am_sipush (v := (1200 : Int32)) (am_dec tmX12_shift_0 42 rfl) (by decide) ?_
          obtain ⟨x27, g26, hf⟩ := am_bd hf
          refine am_callS1 (As := [.int x24, .int (1 : Int32), .int (1200 : Int32)]) (st := []) (am_dec tmX12_shift_0 43 rfl) ok_X12_within rfl lm_X12_187 st_X12_within (c_X12_within hE g26) rfl (by decide) (Nat.le_of_ble_eq_true rfl) (Nat.zero_le _) (Nat.zero_le _) rfl ?_
          refine am_istore (lv' := [(0, .ref 117), (1, .int p1), (2, .int p2), (3, .int p3), (4, .int x27)]) (am_dec tmX12_shift_0 44 rfl) (by decide) rfl ?_
          refine am_aload_n (am_dec tmX12_shift_0 45 rfl) rfl rfl ?_
          refine am_iload (am_dec tmX12_shift_0 46 rfl) rfl ?_
          refine am_aload_n (am_dec tmX12_shift_0 47 rfl) rfl rfl ?_
          refine am_getI (j := 14) hE (am_dec tmX12_shift_0 48 rfl) sh_117 cf12 (by decide) rfl lf_X12_25 ?_
          obtain ⟨w31, g62, hf⟩ := am_bd hf
          have key29 : am_S E mX12_shift 5 0 0 (.inl (some (.int r.1))) am_G0 r.2 0 0 103 [(0, .ref 117), (1, .int p1), (2, .int p2), (3, .int p3), (4, .int x27)] [.int w31, .ref 117] am_G0 x20.2 := by
            refine am_iconst (v := (3 : Int32)) (am_dec tmX12_shift_0 56 rfl) (by decide) ?_
            obtain ⟨x33, g32, hf⟩ := am_bd hf
            refine am_callV1 (As := [.int w31, .int (3 : Int32)]) (st := []) hE (am_dec tmX12_shift_0 57 rfl) ok_X12_bad rfl lm_X12_191 in_X12_bad se_X12_bad sh_117 cf12 (c_X12_bad hE g32) rfl (by decide) (Nat.le_of_ble_eq_true rfl) (Nat.zero_le _) (Nat.zero_le _) rfl ?_
            refine am_if_eq (tgt := 112) (am_dec tmX12_shift_0 58 rfl) (by decide) (fun c34 => ?_) (fun c34 => ?_)
            · rw [if_pos c34] at hf
              refine am_iconst (v := (0 : Int32)) (am_dec tmX12_shift_1 1 rfl) (by decide) ?_
              refine am_istore (lv' := [(0, .ref 117), (1, .int p1), (2, .int p2), (3, .int p3), (4, .int x27), (5, .int (0 : Int32))]) (am_dec tmX12_shift_1 2 rfl) (by decide) rfl ?_
              obtain ⟨e48, g61, hf⟩ := am_bd hf
              refine am_pick [0, 1, 2, 3, 4, 5] rfl (l_X12_shift_L115 hE (Nat.le_refl _) am_fu _ _ _ g61 (fun ex he => ?_))
              subst he
              refine am_aload_n (am_dec tmX12_shift_1 43 rfl) rfl rfl ?_
              refine am_iload (am_dec tmX12_shift_1 44 rfl) rfl ?_
              obtain ⟨D49, g50, hf⟩ := am_bd hf
              refine am_putI2 (j := 36) hE (am_dec tmX12_shift_1 45 rfl) sh_117 cf12 (by decide) rfl lf_X12_253 rfl rfl rfl g50 ?_
              refine am_aload_n (am_dec tmX12_shift_1 46 rfl) rfl rfl ?_
              refine am_iconst (v := (1 : Int32)) (am_dec tmX12_shift_1 47 rfl) (by decide) ?_
              obtain ⟨D51, g52, hf⟩ := am_bd hf
              refine am_putI2 (j := 37) hE (am_dec tmX12_shift_1 48 rfl) sh_117 cf12 (by decide) rfl lf_X12_220 rfl rfl rfl g52 ?_
              refine am_aload_n (am_dec tmX12_shift_1 49 rfl) rfl rfl ?_
              refine am_getR (j := 35) hE (am_dec tmX12_shift_1 50 rfl) sh_117 cf12 (by decide) rfl lf_X12_76 rf_117_35 ?_
              refine am_iconst (v := (2 : Int32)) (am_dec tmX12_shift_1 51 rfl) (by decide) ?_
              refine am_iload (am_dec tmX12_shift_1 52 rfl) rfl ?_
              obtain ⟨D53, g54, hf⟩ := am_bd hf
              refine am_iast2 hE (am_dec tmX12_shift_1 53 rfl) sh_223 g54 ?_
              refine am_aload_n (am_dec tmX12_shift_1 54 rfl) rfl rfl ?_
              refine am_getR (j := 35) hE (am_dec tmX12_shift_1 55 rfl) sh_117 cf12 (by decide) rfl lf_X12_76 rf_117_35 ?_
              refine am_iconst (v := (3 : Int32)) (am_dec tmX12_shift_1 56 rfl) (by decide) ?_
              refine am_aload_n (am_dec tmX12_shift_1 57 rfl) rfl rfl ?_
              refine am_getR (j := 25) hE (am_dec tmX12_shift_1 58 rfl) sh_117 cf12 (by decide) rfl lf_X12_46 rf_117_25 ?_
              refine am_iload_n (am_dec tmX12_shift_1 59 rfl) rfl rfl ?_
              obtain ⟨x55, g56, hf⟩ := am_bd hf
              refine am_iald2 hE (am_dec tmX12_shift_2 0 rfl) sh_139 g56 ?_
              obtain ⟨D57, g58, hf⟩ := am_bd hf
              refine am_iast2 hE (am_dec tmX12_shift_2 1 rfl) sh_223 g58 ?_
              refine am_aload_n (am_dec tmX12_shift_2 2 rfl) rfl rfl ?_
              obtain ⟨x60, g59, hf⟩ := am_bd hf
              refine am_callV0 (As := []) (st := []) hE (am_dec tmX12_shift_2 3 rfl) ok_X12_draws rfl lm_X12_293 in_X12_draws se_X12_draws sh_117 cf12 (c_X12_draws hE g59) rfl (by decide) (Nat.le_of_ble_eq_true rfl) (Nat.zero_le _) (Nat.zero_le _) rfl ?_
              refine am_aload_n (am_dec tmX12_shift_2 4 rfl) rfl rfl ?_
              refine am_getI (j := 39) hE (am_dec tmX12_shift_2 5 rfl) sh_117 cf12 (by decide) rfl lf_X12_250 ?_
              have hf := Option.some.inj hf
              subst hf
              exact am_iret (am_dec tmX12_shift_2 6 rfl) rfl (Nat.zero_le _) (Nat.zero_le _)
            · rw [if_neg c34] at hf
              refine am_iconst (v := (0 : Int32)) (am_dec tmX12_shift_0 59 rfl) (by decide) ?_
              have hf := Option.some.inj hf
              subst hf
              exact am_iret (am_dec tmX12_shift_1 0 rfl) rfl (Nat.zero_le _) (Nat.zero_le _)
          replace hf := g62
          refine am_icmp_lt (tgt := 98) (am_dec tmX12_shift_0 49 rfl) (by decide) (fun c28 => ?_) (fun c28 => ?_)
          · rw [if_pos c28] at hf
            refine am_iconst (v := (1 : Int32)) (am_dec tmX12_shift_0 53 rfl) (by decide) ?_
            refine am_goto (tgt := 103) (am_dec tmX12_shift_0 54 rfl) (by decide) ?_
            have hf := Option.some.inj hf
            subst hf
            exact am_pick [0, 1, 2, 3, 4] rfl key29
          · rw [if_neg c28] at hf
            refine am_iload (am_dec tmX12_shift_0 50 rfl) rfl ?_
            refine am_sipush (v := (600 : Int32)) (am_dec tmX12_shift_0 51 rfl) (by decide) ?_
            refine am_icmp_le (tgt := 102) (am_dec tmX12_shift_0 52 rfl) (by decide) (fun c30 => ?_) (fun c30 => ?_)
            · rw [if_pos c30] at hf
              refine am_iconst (v := (0 : Int32)) (am_dec tmX12_shift_0 55 rfl) (by decide) ?_
              have hf := Option.some.inj hf
              subst hf
              exact am_pick [0, 1, 2, 3, 4] rfl key29
            · rw [if_neg c30] at hf
              refine am_iconst (v := (1 : Int32)) (am_dec tmX12_shift_0 53 rfl) (by decide) ?_
              refine am_goto (tgt := 103) (am_dec tmX12_shift_0 54 rfl) (by decide) ?_
              have hf := Option.some.inj hf
              subst hf
              exact am_pick [0, 1, 2, 3, 4] rfl key29
        · rw [if_neg c21] at hf
          refine am_iconst (v := (0 : Int32)) (am_dec tmX12_shift_0 31 rfl) (by decide) ?_
          have hf := Option.some.inj hf
          subst hf
          exact am_iret (am_dec tmX12_shift_0 32 rfl) rfl (Nat.zero_le _) (Nat.zero_le _)
      replace hf := g63
      refine am_if_eq (tgt := 47) (am_dec tmX12_shift_0 19 rfl) (by decide) (fun c13 => ?_) (fun c13 => ?_)
      · rw [if_pos c13] at hf
        refine am_iconst (v := (1 : Int32)) (am_dec tmX12_shift_0 25 rfl) (by decide) ?_
        refine am_goto (tgt := 52) (am_dec tmX12_shift_0 26 rfl) (by decide) ?_
        have hf := Option.some.inj hf
        subst hf
        exact am_pick [0, 1, 2, 3] rfl key14
      · rw [if_neg c13] at hf
        refine am_iload_n (am_dec tmX12_shift_0 20 rfl) rfl rfl ?_
        refine am_iconst (v := (1 : Int32)) (am_dec tmX12_shift_0 21 rfl) (by decide) ?_
        refine am_bipush (v := (9 : Int32)) (am_dec tmX12_shift_0 22 rfl) (by decide) ?_
        obtain ⟨x16, g15, hf⟩ := am_bd hf
        refine am_callS1 (As := [.int p3, .int (1 : Int32), .int (9 : Int32)]) (st := [.ref 117]) (am_dec tmX12_shift_0 23 rfl) ok_X12_in rfl lm_X12_144 st_X12_in (c_X12_in hE g15) rfl (by decide) (Nat.le_of_ble_eq_true rfl) (Nat.zero_le _) (Nat.zero_le _) rfl ?_
        refine am_if_ne (tgt := 51) (am_dec tmX12_shift_0 24 rfl) (by decide) (fun c17 => ?_) (fun c17 => ?_)
        · rw [if_neg c17] at hf
          refine am_iconst (v := (0 : Int32)) (am_dec tmX12_shift_0 27 rfl) (by decide) ?_
          have hf := Option.some.inj hf
          subst hf
          exact am_pick [0, 1, 2, 3] rfl key14
        · rw [if_pos c17] at hf
          refine am_iconst (v := (1 : Int32)) (am_dec tmX12_shift_0 25 rfl) (by decide) ?_
          refine am_goto (tgt := 52) (am_dec tmX12_shift_0 26 rfl) (by decide) ?_
          have hf := Option.some.inj hf
          subst hf
          exact am_pick [0, 1, 2, 3] rfl key14
  replace hf := g64
  refine am_if_ne (tgt := 18) (am_dec tmX12_shift_0 7 rfl) (by decide) (fun c5 => ?_) (fun c5 => ?_)
  · rw [if_neg c5] at hf
    refine am_iconst (v := (0 : Int32)) (am_dec tmX12_shift_0 10 rfl) (by decide) ?_
    have hf := Option.some.inj hf
    subst hf
    exact am_pick [0, 1, 2, 3] rfl key6
  · rw [if_pos c5] at hf
    refine am_iconst (v := (1 : Int32)) (am_dec tmX12_shift_0 8 rfl) (by decide) ?_
    refine am_goto (tgt := 19) (am_dec tmX12_shift_0 9 rfl) (by decide) ?_
    have hf := Option.some.inj hf
    subst hf
    exact am_pick [0, 1, 2, 3] rfl key6
def f_X12_colour_L56 (q1 : Int32) (q2 : Int32) (D : am_D) : Nat → Int32 → Int32 → Option (Int32)
  | 0, _, _ => none
  | n + 1, v3, v4 =>
    (am_gI D 139 5 q1).bind fun x19 =>
    (f_X12_more x19 (D.1 117 38)).bind fun x22 =>
    if x22 ≤ v4 then
    some (v3)
    else
    (am_gA 5 q1).bind fun j24 =>
    (am_gI D 139 5 q1).bind fun x26 =>
    (f_X12_loudest (134 + j24) x26 v4 q2 D).bind fun x29 =>
    (f_X12_loudest 222 (D.1 117 38) v4 q2 D).bind fun x31 =>
    (f_X12_amount (x29 - x31)).bind fun x33 =>
    f_X12_colour_L56 q1 q2 D n (v3 + x33) (v4 + q2)
def f_X12_colour (p1 : Int32) (p2 : Int32) (D : am_D) : Option ((Int32 × am_D)) :=
    (some (am_wI D 117 0 (0 : Int32))).bind fun D1 =>
    (f_X12_isSound p1 D1).bind fun x4 =>
    (if x4 = 0 then
    some ((1 : Int32))
    else
    some ((0 : Int32))).bind fun w7 =>
    (f_X12_bad w7 (1 : Int32) D1).bind fun x9 =>
    if x9.1 = 0 then
    (f_X12_in p2 (4 : Int32) (60 : Int32)).bind fun x12 =>
    (if x12 = 0 then
    some ((1 : Int32))
    else
    some ((0 : Int32))).bind fun w15 =>
    (f_X12_bad w15 (2 : Int32) x9.2).bind fun x17 =>
    if x17.1 = 0 then
    (f_X12_colour_L56 p1 p2 x17.2 am_fu (0 : Int32) (0 : Int32)).bind fun e34 =>
    some (e34, x17.2)
    else
    some ((0 : Int32), x17.2)
    else
    some ((0 : Int32), x9.2)
set_option maxRecDepth 100000 in
set_option maxHeartbeats 4000000 in
theorem l_X12_colour_L56 {E : am_E} (hE : am_EH E) {d mc ms : Nat} {o : am_O} {G2 : am_G} {D2 : am_D} (hdp : 3 ≤ d) {q1 : Int32} {q2 : Int32} {D : am_D}  : ∀ (n : Nat) (v3 : Int32) (v4 : Int32) (ex0 : Int32), f_X12_colour_L56 q1 q2 D n v3 v4 = some ex0 → (∀ ex : Int32, ex0 = ex → am_S E mX12_colour d mc ms o G2 D2 0 0 122 [(3, .int ex)] [] am_G0 D) → am_S E mX12_colour d mc ms o G2 D2 0 0 56 [(0, .ref 117), (1, .int q1), (2, .int q2), (3, .int v3), (4, .int v4)] [] am_G0 D
  | 0, _, _, _, hf, _ => by
    unfold f_X12_colour_L56 at hf
    cases hf
  | n + 1, v3, v4, ex0, hf, hk0 => by
    unfold f_X12_colour_L56 at hf
    refine am_iload (am_dec tmX12_colour_0 32 rfl) rfl ?_
    refine am_aload_n (am_dec tmX12_colour_0 33 rfl) rfl rfl ?_
    refine am_getR (j := 25) hE (am_dec tmX12_colour_0 34 rfl) sh_117 cf12 (by decide) rfl lf_X12_46 rf_117_25 ?_
    refine am_iload_n (am_dec tmX12_colour_0 35 rfl) rfl rfl ?_
    obtain ⟨x19, g20, hf⟩ := am_bd hf
    refine am_iald2 hE (am_dec tmX12_colour_0 36 rfl) sh_139 g20 ?_
    refine am_aload_n (am_dec tmX12_colour_0 37 rfl) rfl rfl ?_
    refine am_getI (j := 38) hE (am_dec tmX12_colour_0 38 rfl) sh_117 cf12 (by decide) rfl lf_X12_262 ?_
    obtain ⟨x22, g21, hf⟩ := am_bd hf
    refine am_callS1 (As := [.int x19, .int (D.1 117 38)]) (st := [.int v4]) (am_dec tmX12_colour_0 39 rfl) ok_X12_more rfl lm_X12_306 st_X12_more (c_X12_more hE g21) rfl (Nat.lt_of_lt_of_le (by decide) hdp) (Nat.le_of_ble_eq_true rfl) (Nat.zero_le _) (Nat.zero_le _) rfl ?_
    refine am_icmp_ge (tgt := 122) (am_dec tmX12_colour_0 40 rfl) (by decide) (fun c23 => ?_) (fun c23 => ?_)
    · rw [if_pos c23] at hf
      have hf := Option.some.inj hf
      subst hf
      exact am_pick [3] rfl (hk0 _ rfl)
    · rw [if_neg c23] at hf
      refine am_iload_n (am_dec tmX12_colour_0 41 rfl) rfl rfl ?_
      refine am_aload_n (am_dec tmX12_colour_0 42 rfl) rfl rfl ?_
      refine am_getR (j := 24) hE (am_dec tmX12_colour_0 43 rfl) sh_117 cf12 (by decide) rfl lf_X12_43 rf_117_24 ?_
      refine am_iload_n (am_dec tmX12_colour_0 44 rfl) rfl rfl ?_
      obtain ⟨j24, g25, hf⟩ := am_bd hf
      have hj_j24 := (am_gA_lt g25).1
      refine am_aald2 (t := 6) hE (am_dec tmX12_colour_0 45 rfl) sh_133 (by decide) rfl rfl g25 (rr_133 hj_j24) ?_
      refine am_aload_n (am_dec tmX12_colour_0 46 rfl) rfl rfl ?_
      refine am_getR (j := 25) hE (am_dec tmX12_colour_0 47 rfl) sh_117 cf12 (by decide) rfl lf_X12_46 rf_117_25 ?_
      refine am_iload_n (am_dec tmX12_colour_0 48 rfl) rfl rfl ?_
      obtain ⟨x26, g27, hf⟩ := am_bd hf
      refine am_iald2 hE (am_dec tmX12_colour_0 49 rfl) sh_139 g27 ?_
      refine am_iload (am_dec tmX12_colour_0 50 rfl) rfl ?_
      refine am_iload_n (am_dec tmX12_colour_0 51 rfl) rfl rfl ?_
      obtain ⟨x29, g28, hf⟩ := am_bd hf
      refine am_callS1 (As := [.ref (134 + j24), .int x26, .int v4, .int q2]) (st := [.int v3]) (am_dec tmX12_colour_0 52 rfl) ok_X12_loudest rfl lm_X12_361 st_X12_loudest (c_X12_loudest hE (am_shl (sa_133_0 hj_j24)) g28) rfl (Nat.lt_of_lt_of_le (by decide) hdp) (Nat.le_of_ble_eq_true rfl) (Nat.zero_le _) (Nat.zero_le _) rfl ?_
      refine am_aload_n (am_dec tmX12_colour_0 53 rfl) rfl rfl ?_
      refine am_getR (j := 34) hE (am_dec tmX12_colour_0 54 rfl) sh_117 cf12 (by decide) rfl lf_X12_73 rf_117_34 ?_
      refine am_aload_n (am_dec tmX12_colour_0 55 rfl) rfl rfl ?_
      refine am_getI (j := 38) hE (am_dec tmX12_colour_0 56 rfl) sh_117 cf12 (by decide) rfl lf_X12_262 ?_
      refine am_iload (am_dec tmX12_colour_0 57 rfl) rfl ?_
      refine am_iload_n (am_dec tmX12_colour_0 58 rfl) rfl rfl ?_
      obtain ⟨x31, g30, hf⟩ := am_bd hf
      refine am_callS1 (As := [.ref 222, .int (D.1 117 38), .int v4, .int q2]) (st := [.int x29, .int v3]) (am_dec tmX12_colour_0 59 rfl) ok_X12_loudest rfl lm_X12_361 st_X12_loudest (c_X12_loudest hE (am_shl sh_222) g30) rfl (Nat.lt_of_lt_of_le (by decide) hdp) (Nat.le_of_ble_eq_true rfl) (Nat.zero_le _) (Nat.zero_le _) rfl ?_
      refine am_isub (am_dec tmX12_colour_1 0 rfl) ?_
      obtain ⟨x33, g32, hf⟩ := am_bd hf
      refine am_callS1 (As := [.int (x29 - x31)]) (st := [.int v3]) (am_dec tmX12_colour_1 1 rfl) ok_X12_amount rfl lm_X12_281 st_X12_amount (c_X12_amount hE g32) rfl (Nat.lt_of_lt_of_le (by decide) hdp) (Nat.le_of_ble_eq_true rfl) (Nat.zero_le _) (Nat.zero_le _) rfl ?_
      refine am_iadd (am_dec tmX12_colour_1 2 rfl) ?_
      refine am_istore_n (lv' := [(0, .ref 117), (1, .int q1), (2, .int q2), (3, .int (v3 + x33)), (4, .int v4)]) (am_dec tmX12_colour_1 3 rfl) rfl (by decide) rfl ?_
      refine am_iload (am_dec tmX12_colour_1 4 rfl) rfl ?_
      refine am_iload_n (am_dec tmX12_colour_1 5 rfl) rfl rfl ?_
      refine am_iadd (am_dec tmX12_colour_1 6 rfl) ?_
      refine am_istore (lv' := [(0, .ref 117), (1, .int q1), (2, .int q2), (3, .int (v3 + x33)), (4, .int (v4 + q2))]) (am_dec tmX12_colour_1 7 rfl) (by decide) rfl ?_
      refine am_goto (tgt := 56) (am_dec tmX12_colour_1 8 rfl) (by decide) ?_
      exact am_pick [0, 1, 2, 3, 4] rfl (l_X12_colour_L56 hE hdp n (v3 + x33) (v4 + q2) ex0 hf hk0)
set_option maxRecDepth 100000 in
set_option maxHeartbeats 4000000 in
theorem c_X12_colour {E : am_E} (hE : am_EH E) {p1 : Int32} {p2 : Int32} {D : am_D} {r : (Int32 × am_D)}  (hf : f_X12_colour p1 p2 D = some r) : am_C E mX12_colour 3 0 0 [.ref 117, .int p1, .int p2] am_G0 D (.inl (some (.int r.1))) am_G0 r.2 := by
  refine am_C_of (by decide +kernel) (Nat.le_of_ble_eq_true rfl) ?_
  change am_S E mX12_colour 3 0 0 (.inl (some (.int r.1))) am_G0 r.2 0 0 0 [(0, .ref 117), (1, .int p1), (2, .int p2)] [] am_G0 D
  unfold f_X12_colour at hf
  refine am_aload_n (am_dec tmX12_colour_0 0 rfl) rfl rfl ?_
  refine am_iconst (v := (0 : Int32)) (am_dec tmX12_colour_0 1 rfl) (by decide) ?_
  obtain ⟨D1, g2, hf⟩ := am_bd hf
  refine am_putI2 (j := 0) hE (am_dec tmX12_colour_0 2 rfl) sh_117 cf12 (by decide) rfl lf_X12_110 rfl rfl rfl g2 ?_
  refine am_aload_n (am_dec tmX12_colour_0 3 rfl) rfl rfl ?_
  refine am_aload_n (am_dec tmX12_colour_0 4 rfl) rfl rfl ?_
  refine am_iload_n (am_dec tmX12_colour_0 5 rfl) rfl rfl ?_
  obtain ⟨x4, g3, hf⟩ := am_bd hf
  refine am_callV1 (As := [.int p1]) (st := [.ref 117]) hE (am_dec tmX12_colour_0 6 rfl) ok_X12_isSound rfl lm_X12_217 in_X12_isSound se_X12_isSound sh_117 cf12 (c_X12_isSound hE g3) rfl (by decide) (Nat.le_of_ble_eq_true rfl) (Nat.zero_le _) (Nat.zero_le _) rfl ?_
  obtain ⟨w7, g37, hf⟩ := am_bd hf
  have key6 : am_S E mX12_colour 3 0 0 (.inl (some (.int r.1))) am_G0 r.2 0 0 19 [(0, .ref 117), (1, .int p1), (2, .int p2)] [.int w7, .ref 117] am_G0 D1 := by
    refine am_iconst (v := (1 : Int32)) (am_dec tmX12_colour_0 11 rfl) (by decide) ?_
    obtain ⟨x9, g8, hf⟩ := am_bd hf
    refine am_callV1 (As := [.int w7, .int (1 : Int32)]) (st := []) hE (am_dec tmX12_colour_0 12 rfl) ok_X12_bad rfl lm_X12_191 in_X12_bad se_X12_bad sh_117 cf12 (c_X12_bad hE g8) rfl (by decide) (Nat.le_of_ble_eq_true rfl) (Nat.zero_le _) (Nat.zero_le _) rfl ?_
    refine am_if_ne (tgt := 49) (am_dec tmX12_colour_0 13 rfl) (by decide) (fun c10 => ?_) (fun c10 => ?_)
    · rw [if_neg c10] at hf
      refine am_iconst (v := (0 : Int32)) (am_dec tmX12_colour_0 26 rfl) (by decide) ?_
      have hf := Option.some.inj hf
      subst hf
      exact am_iret (am_dec tmX12_colour_0 27 rfl) rfl (Nat.zero_le _) (Nat.zero_le _)
    · rw [if_pos c10] at hf
      refine am_aload_n (am_dec tmX12_colour_0 14 rfl) rfl rfl ?_
      refine am_iload_n (am_dec tmX12_colour_0 15 rfl) rfl rfl ?_
      refine am_iconst (v := (4 : Int32)) (am_dec tmX12_colour_0 16 rfl) (by decide) ?_
      refine am_bipush (v := (60 : Int32)) (am_dec tmX12_colour_0 17 rfl) (by decide) ?_
      obtain ⟨x12, g11, hf⟩ := am_bd hf
      refine am_callS1 (As := [.int p2, .int (4 : Int32), .int (60 : Int32)]) (st := [.ref 117]) (am_dec tmX12_colour_0 18 rfl) ok_X12_in rfl lm_X12_144 st_X12_in (c_X12_in hE g11) rfl (by decide) (Nat.le_of_ble_eq_true rfl) (Nat.zero_le _) (Nat.zero_le _) rfl ?_
      obtain ⟨w15, g36, hf⟩ := am_bd hf
      have key14 : am_S E mX12_colour 3 0 0 (.inl (some (.int r.1))) am_G0 r.2 0 0 42 [(0, .ref 117), (1, .int p1), (2, .int p2)] [.int w15, .ref 117] am_G0 x9.2 := by
        refine am_iconst (v := (2 : Int32)) (am_dec tmX12_colour_0 23 rfl) (by decide) ?_
        obtain ⟨x17, g16, hf⟩ := am_bd hf
        refine am_callV1 (As := [.int w15, .int (2 : Int32)]) (st := []) hE (am_dec tmX12_colour_0 24 rfl) ok_X12_bad rfl lm_X12_191 in_X12_bad se_X12_bad sh_117 cf12 (c_X12_bad hE g16) rfl (by decide) (Nat.le_of_ble_eq_true rfl) (Nat.zero_le _) (Nat.zero_le _) rfl ?_
        refine am_if_eq (tgt := 51) (am_dec tmX12_colour_0 25 rfl) (by decide) (fun c18 => ?_) (fun c18 => ?_)
        · rw [if_pos c18] at hf
          refine am_iconst (v := (0 : Int32)) (am_dec tmX12_colour_0 28 rfl) (by decide) ?_
          refine am_istore_n (lv' := [(0, .ref 117), (1, .int p1), (2, .int p2), (3, .int (0 : Int32))]) (am_dec tmX12_colour_0 29 rfl) rfl (by decide) rfl ?_
          refine am_iconst (v := (0 : Int32)) (am_dec tmX12_colour_0 30 rfl) (by decide) ?_
          refine am_istore (lv' := [(0, .ref 117), (1, .int p1), (2, .int p2), (3, .int (0 : Int32)), (4, .int (0 : Int32))]) (am_dec tmX12_colour_0 31 rfl) (by decide) rfl ?_
          obtain ⟨e34, g35, hf⟩ := am_bd hf
          refine am_pick [0, 1, 2, 3, 4] rfl (l_X12_colour_L56 hE (Nat.le_refl _) am_fu _ _ _ g35 (fun ex he => ?_))
          subst he
          refine am_iload_n (am_dec tmX12_colour_1 9 rfl) rfl rfl ?_
          have hf := Option.some.inj hf
          subst hf
          exact am_iret (am_dec tmX12_colour_1 10 rfl) rfl (Nat.zero_le _) (Nat.zero_le _)
        · rw [if_neg c18] at hf
          refine am_iconst (v := (0 : Int32)) (am_dec tmX12_colour_0 26 rfl) (by decide) ?_
          have hf := Option.some.inj hf
          subst hf
          exact am_iret (am_dec tmX12_colour_0 27 rfl) rfl (Nat.zero_le _) (Nat.zero_le _)
      replace hf := g36
      refine am_if_ne (tgt := 41) (am_dec tmX12_colour_0 19 rfl) (by decide) (fun c13 => ?_) (fun c13 => ?_)
      · rw [if_neg c13] at hf
        refine am_iconst (v := (0 : Int32)) (am_dec tmX12_colour_0 22 rfl) (by decide) ?_
        have hf := Option.some.inj hf
        subst hf
        exact am_pick [0, 1, 2] rfl key14
      · rw [if_pos c13] at hf
        refine am_iconst (v := (1 : Int32)) (am_dec tmX12_colour_0 20 rfl) (by decide) ?_
        refine am_goto (tgt := 42) (am_dec tmX12_colour_0 21 rfl) (by decide) ?_
        have hf := Option.some.inj hf
        subst hf
        exact am_pick [0, 1, 2] rfl key14
  replace hf := g37
  refine am_if_ne (tgt := 18) (am_dec tmX12_colour_0 7 rfl) (by decide) (fun c5 => ?_) (fun c5 => ?_)
  · rw [if_neg c5] at hf
    refine am_iconst (v := (0 : Int32)) (am_dec tmX12_colour_0 10 rfl) (by decide) ?_
    have hf := Option.some.inj hf
    subst hf
    exact am_pick [0, 1, 2] rfl key6
  · rw [if_pos c5] at hf
    refine am_iconst (v := (1 : Int32)) (am_dec tmX12_colour_0 8 rfl) (by decide) ?_
    refine am_goto (tgt := 19) (am_dec tmX12_colour_0 9 rfl) (by decide) ?_
    have hf := Option.some.inj hf
    subst hf
    exact am_pick [0, 1, 2] rfl key6
def f_X12_findStrengths_L3 (q1 : Int32) (q2 : Int32) (q3 : Int32) : Nat → Int32 → am_D → Option (am_D)
  | 0, _, _ => none
  | n + 1, v4, D =>
    if (60 : Int32) < v4 then
    some (D)
    else
    (f_X12_strengthOf q1 v4 q2 q3 D).bind fun x3 =>
    (am_pL D 2632 62 v4 x3).bind fun D4 =>
    f_X12_findStrengths_L3 q1 q2 q3 n (v4 + (1 : Int32)) D4
def f_X12_findStrengths (p1 : Int32) (p2 : Int32) (p3 : Int32) (D : am_D) : Option (am_D) :=
    (f_X12_findStrengths_L3 p1 p2 p3 am_fu (4 : Int32) D).bind fun e6 =>
    some e6
set_option maxRecDepth 100000 in
set_option maxHeartbeats 4000000 in
theorem l_X12_findStrengths_L3 {E : am_E} (hE : am_EH E) {d mc ms : Nat} {o : am_O} {G2 : am_G} {D2 : am_D} (hdp : 4 ≤ d) {q1 : Int32} {q2 : Int32} {q3 : Int32}  : ∀ (n : Nat) (v4 : Int32) (D : am_D) (ex0 : am_D), f_X12_findStrengths_L3 q1 q2 q3 n v4 D = some ex0 → (∀ ex : am_D, ex0 = ex → am_S E mX12_findStrengths d mc ms o G2 D2 0 0 32 [] [] am_G0 ex) → am_S E mX12_findStrengths d mc ms o G2 D2 0 0 3 [(0, .ref 117), (1, .int q1), (2, .int q2), (3, .int q3), (4, .int v4)] [] am_G0 D
  | 0, _, _, _, hf, _ => by
    unfold f_X12_findStrengths_L3 at hf
    cases hf
  | n + 1, v4, D, ex0, hf, hk0 => by
    unfold f_X12_findStrengths_L3 at hf
    refine am_iload (am_dec tmX12_findStrengths 2 rfl) rfl ?_
    refine am_bipush (v := (60 : Int32)) (am_dec tmX12_findStrengths 3 rfl) (by decide) ?_
    refine am_icmp_gt (tgt := 32) (am_dec tmX12_findStrengths 4 rfl) (by decide) (fun c1 => ?_) (fun c1 => ?_)
    · rw [if_pos c1] at hf
      have hf := Option.some.inj hf
      subst hf
      exact am_pick [] rfl (hk0 _ rfl)
    · rw [if_neg c1] at hf
      refine am_aload_n (am_dec tmX12_findStrengths 5 rfl) rfl rfl ?_
      refine am_getR (j := 54) hE (am_dec tmX12_findStrengths 6 rfl) sh_117 cf12 (by decide) rfl lf_X12_103 rf_117_54 ?_
      refine am_iload (am_dec tmX12_findStrengths 7 rfl) rfl ?_
      refine am_aload_n (am_dec tmX12_findStrengths 8 rfl) rfl rfl ?_
      refine am_iload_n (am_dec tmX12_findStrengths 9 rfl) rfl rfl ?_
      refine am_iload (am_dec tmX12_findStrengths 10 rfl) rfl ?_
      refine am_iload_n (am_dec tmX12_findStrengths 11 rfl) rfl rfl ?_
      refine am_iload_n (am_dec tmX12_findStrengths 12 rfl) rfl rfl ?_
      obtain ⟨x3, g2, hf⟩ := am_bd hf
      refine am_callV1 (As := [.int q1, .int v4, .int q2, .int q3]) (st := [.int v4, .ref 2632]) hE (am_dec tmX12_findStrengths 13 rfl) ok_X12_strengthOf rfl lm_X12_357 in_X12_strengthOf se_X12_strengthOf sh_117 cf12 (c_X12_strengthOf hE g2) rfl (Nat.lt_of_lt_of_le (by decide) hdp) (Nat.le_of_ble_eq_true rfl) (Nat.zero_le _) (Nat.zero_le _) rfl ?_
      obtain ⟨D4, g5, hf⟩ := am_bd hf
      refine am_last2 hE (am_dec tmX12_findStrengths 14 rfl) sh_2632 g5 ?_
      refine am_iinc (v := (1 : Int32)) (lv' := [(0, .ref 117), (1, .int q1), (2, .int q2), (3, .int q3), (4, .int (v4 + (1 : Int32)))]) (am_dec tmX12_findStrengths 15 rfl) rfl (by decide) (by decide) rfl ?_
      refine am_goto (tgt := 3) (am_dec tmX12_findStrengths 16 rfl) (by decide) ?_
      exact am_pick [0, 1, 2, 3, 4] rfl (l_X12_findStrengths_L3 hE hdp n (v4 + (1 : Int32)) D4 ex0 hf hk0)
set_option maxRecDepth 100000 in
set_option maxHeartbeats 4000000 in
theorem c_X12_findStrengths {E : am_E} (hE : am_EH E) {p1 : Int32} {p2 : Int32} {p3 : Int32} {D : am_D} {r : am_D}  (hf : f_X12_findStrengths p1 p2 p3 D = some r) : am_C E mX12_findStrengths 4 0 0 [.ref 117, .int p1, .int p2, .int p3] am_G0 D (.inl none) am_G0 r := by
  refine am_C_of (by decide +kernel) (Nat.le_of_ble_eq_true rfl) ?_
  change am_S E mX12_findStrengths 4 0 0 (.inl none) am_G0 r 0 0 0 [(0, .ref 117), (1, .int p1), (2, .int p2), (3, .int p3)] [] am_G0 D
  unfold f_X12_findStrengths at hf
  refine am_iconst (v := (4 : Int32)) (am_dec tmX12_findStrengths 0 rfl) (by decide) ?_
  refine am_istore (lv' := [(0, .ref 117), (1, .int p1), (2, .int p2), (3, .int p3), (4, .int (4 : Int32))]) (am_dec tmX12_findStrengths 1 rfl) (by decide) rfl ?_
  obtain ⟨e6, g7, hf⟩ := am_bd hf
  refine am_pick [0, 1, 2, 3, 4] rfl (l_X12_findStrengths_L3 hE (Nat.le_refl _) am_fu _ _ _ g7 (fun ex he => ?_))
  subst he
  have hf := Option.some.inj hf
  subst hf
  exact am_vret (am_dec tmX12_findStrengths 17 rfl) rfl (Nat.zero_le _) (Nat.zero_le _)
def f_X12_isPeak (p1 : Int32) (D : am_D) : Option (Int32) :=
    if p1 = (4 : Int32) then
    if p1 = (60 : Int32) then
    some (1 : Int32)
    else
    (am_gL D 2632 62 p1).bind fun x3 =>
    (am_gL D 2632 62 (p1 + (1 : Int32))).bind fun x5 =>
    if (lg_cmp x3 x5) < 0 then
    some (0 : Int32)
    else
    some (1 : Int32)
    else
    (am_gL D 2632 62 p1).bind fun x8 =>
    (am_gL D 2632 62 (p1 - (1 : Int32))).bind fun x10 =>
    if (lg_cmp x8 x10) ≤ 0 then
    some (0 : Int32)
    else
    if p1 = (60 : Int32) then
    some (1 : Int32)
    else
    (am_gL D 2632 62 p1).bind fun x14 =>
    (am_gL D 2632 62 (p1 + (1 : Int32))).bind fun x16 =>
    if (lg_cmp x14 x16) < 0 then
    some (0 : Int32)
    else
    some (1 : Int32)
set_option maxRecDepth 100000 in
set_option maxHeartbeats 4000000 in
theorem c_X12_isPeak {E : am_E} (hE : am_EH E) {p1 : Int32} {D : am_D} {r : Int32}  (hf : f_X12_isPeak p1 D = some r) : am_C E mX12_isPeak 1 0 0 [.ref 117, .int p1] am_G0 D (.inl (some (.int r))) am_G0 D := by
  refine am_C_of (by decide +kernel) (Nat.le_of_ble_eq_true rfl) ?_
  change am_S E mX12_isPeak 1 0 0 (.inl (some (.int r))) am_G0 D 0 0 0 [(0, .ref 117), (1, .int p1)] [] am_G0 D
  unfold f_X12_isPeak at hf
  refine am_iload_n (am_dec tmX12_isPeak 0 rfl) rfl rfl ?_
  refine am_iconst (v := (4 : Int32)) (am_dec tmX12_isPeak 1 rfl) (by decide) ?_
  refine am_icmp_eq (tgt := 23) (am_dec tmX12_isPeak 2 rfl) (by decide) (fun c1 => ?_) (fun c1 => ?_)
  · rw [if_pos c1] at hf
    refine am_iload_n (am_dec tmX12_isPeak 15 rfl) rfl rfl ?_
    refine am_bipush (v := (60 : Int32)) (am_dec tmX12_isPeak 16 rfl) (by decide) ?_
    refine am_icmp_eq (tgt := 47) (am_dec tmX12_isPeak 17 rfl) (by decide) (fun c2 => ?_) (fun c2 => ?_)
    · rw [if_pos c2] at hf
      refine am_iconst (v := (1 : Int32)) (am_dec tmX12_isPeak 30 rfl) (by decide) ?_
      refine am_goto (tgt := 52) (am_dec tmX12_isPeak 31 rfl) (by decide) ?_
      have hf := Option.some.inj hf
      subst hf
      exact am_zret (am_dec tmX12_isPeak 33 rfl) rfl am_z1 (Nat.zero_le _) (Nat.zero_le _)
    · rw [if_neg c2] at hf
      refine am_aload_n (am_dec tmX12_isPeak 18 rfl) rfl rfl ?_
      refine am_getR (j := 54) hE (am_dec tmX12_isPeak 19 rfl) sh_117 cf12 (by decide) rfl lf_X12_103 rf_117_54 ?_
      refine am_iload_n (am_dec tmX12_isPeak 20 rfl) rfl rfl ?_
      obtain ⟨x3, g4, hf⟩ := am_bd hf
      refine am_lald2 hE (am_dec tmX12_isPeak 21 rfl) sh_2632 g4 ?_
      refine am_aload_n (am_dec tmX12_isPeak 22 rfl) rfl rfl ?_
      refine am_getR (j := 54) hE (am_dec tmX12_isPeak 23 rfl) sh_117 cf12 (by decide) rfl lf_X12_103 rf_117_54 ?_
      refine am_iload_n (am_dec tmX12_isPeak 24 rfl) rfl rfl ?_
      refine am_iconst (v := (1 : Int32)) (am_dec tmX12_isPeak 25 rfl) (by decide) ?_
      refine am_iadd (am_dec tmX12_isPeak 26 rfl) ?_
      obtain ⟨x5, g6, hf⟩ := am_bd hf
      refine am_lald2 hE (am_dec tmX12_isPeak 27 rfl) sh_2632 g6 ?_
      refine am_lcmp (am_dec tmX12_isPeak 28 rfl) ?_
      refine am_if_lt (tgt := 51) (am_dec tmX12_isPeak 29 rfl) (by decide) (fun c7 => ?_) (fun c7 => ?_)
      · rw [if_pos c7] at hf
        refine am_iconst (v := (0 : Int32)) (am_dec tmX12_isPeak 32 rfl) (by decide) ?_
        have hf := Option.some.inj hf
        subst hf
        exact am_zret (am_dec tmX12_isPeak 33 rfl) rfl am_z0 (Nat.zero_le _) (Nat.zero_le _)
      · rw [if_neg c7] at hf
        refine am_iconst (v := (1 : Int32)) (am_dec tmX12_isPeak 30 rfl) (by decide) ?_
        refine am_goto (tgt := 52) (am_dec tmX12_isPeak 31 rfl) (by decide) ?_
        have hf := Option.some.inj hf
        subst hf
        exact am_zret (am_dec tmX12_isPeak 33 rfl) rfl am_z1 (Nat.zero_le _) (Nat.zero_le _)
  · rw [if_neg c1] at hf
    refine am_aload_n (am_dec tmX12_isPeak 3 rfl) rfl rfl ?_
    refine am_getR (j := 54) hE (am_dec tmX12_isPeak 4 rfl) sh_117 cf12 (by decide) rfl lf_X12_103 rf_117_54 ?_
    refine am_iload_n (am_dec tmX12_isPeak 5 rfl) rfl rfl ?_
    obtain ⟨x8, g9, hf⟩ := am_bd hf
    refine am_lald2 hE (am_dec tmX12_isPeak 6 rfl) sh_2632 g9 ?_
    refine am_aload_n (am_dec tmX12_isPeak 7 rfl) rfl rfl ?_
    refine am_getR (j := 54) hE (am_dec tmX12_isPeak 8 rfl) sh_117 cf12 (by decide) rfl lf_X12_103 rf_117_54 ?_
    refine am_iload_n (am_dec tmX12_isPeak 9 rfl) rfl rfl ?_
    refine am_iconst (v := (1 : Int32)) (am_dec tmX12_isPeak 10 rfl) (by decide) ?_
    refine am_isub (am_dec tmX12_isPeak 11 rfl) ?_
    obtain ⟨x10, g11, hf⟩ := am_bd hf
    refine am_lald2 hE (am_dec tmX12_isPeak 12 rfl) sh_2632 g11 ?_
    refine am_lcmp (am_dec tmX12_isPeak 13 rfl) ?_
    refine am_if_le (tgt := 51) (am_dec tmX12_isPeak 14 rfl) (by decide) (fun c12 => ?_) (fun c12 => ?_)
    · rw [if_pos c12] at hf
      refine am_iconst (v := (0 : Int32)) (am_dec tmX12_isPeak 32 rfl) (by decide) ?_
      have hf := Option.some.inj hf
      subst hf
      exact am_zret (am_dec tmX12_isPeak 33 rfl) rfl am_z0 (Nat.zero_le _) (Nat.zero_le _)
    · rw [if_neg c12] at hf
      refine am_iload_n (am_dec tmX12_isPeak 15 rfl) rfl rfl ?_
      refine am_bipush (v := (60 : Int32)) (am_dec tmX12_isPeak 16 rfl) (by decide) ?_
      refine am_icmp_eq (tgt := 47) (am_dec tmX12_isPeak 17 rfl) (by decide) (fun c13 => ?_) (fun c13 => ?_)
      · rw [if_pos c13] at hf
        refine am_iconst (v := (1 : Int32)) (am_dec tmX12_isPeak 30 rfl) (by decide) ?_
        refine am_goto (tgt := 52) (am_dec tmX12_isPeak 31 rfl) (by decide) ?_
        have hf := Option.some.inj hf
        subst hf
        exact am_zret (am_dec tmX12_isPeak 33 rfl) rfl am_z1 (Nat.zero_le _) (Nat.zero_le _)
      · rw [if_neg c13] at hf
        refine am_aload_n (am_dec tmX12_isPeak 18 rfl) rfl rfl ?_
        refine am_getR (j := 54) hE (am_dec tmX12_isPeak 19 rfl) sh_117 cf12 (by decide) rfl lf_X12_103 rf_117_54 ?_
        refine am_iload_n (am_dec tmX12_isPeak 20 rfl) rfl rfl ?_
        obtain ⟨x14, g15, hf⟩ := am_bd hf
        refine am_lald2 hE (am_dec tmX12_isPeak 21 rfl) sh_2632 g15 ?_
        refine am_aload_n (am_dec tmX12_isPeak 22 rfl) rfl rfl ?_
        refine am_getR (j := 54) hE (am_dec tmX12_isPeak 23 rfl) sh_117 cf12 (by decide) rfl lf_X12_103 rf_117_54 ?_
        refine am_iload_n (am_dec tmX12_isPeak 24 rfl) rfl rfl ?_
        refine am_iconst (v := (1 : Int32)) (am_dec tmX12_isPeak 25 rfl) (by decide) ?_
        refine am_iadd (am_dec tmX12_isPeak 26 rfl) ?_
        obtain ⟨x16, g17, hf⟩ := am_bd hf
        refine am_lald2 hE (am_dec tmX12_isPeak 27 rfl) sh_2632 g17 ?_
        refine am_lcmp (am_dec tmX12_isPeak 28 rfl) ?_
        refine am_if_lt (tgt := 51) (am_dec tmX12_isPeak 29 rfl) (by decide) (fun c18 => ?_) (fun c18 => ?_)
        · rw [if_pos c18] at hf
          refine am_iconst (v := (0 : Int32)) (am_dec tmX12_isPeak 32 rfl) (by decide) ?_
          have hf := Option.some.inj hf
          subst hf
          exact am_zret (am_dec tmX12_isPeak 33 rfl) rfl am_z0 (Nat.zero_le _) (Nat.zero_le _)
        · rw [if_neg c18] at hf
          refine am_iconst (v := (1 : Int32)) (am_dec tmX12_isPeak 30 rfl) (by decide) ?_
          refine am_goto (tgt := 52) (am_dec tmX12_isPeak 31 rfl) (by decide) ?_
          have hf := Option.some.inj hf
          subst hf
          exact am_zret (am_dec tmX12_isPeak 33 rfl) rfl am_z1 (Nat.zero_le _) (Nat.zero_le _)
theorem z_X12_isPeak {p1 : Int32} {D : am_D} {r : Int32} (hf : f_X12_isPeak p1 D = some r) : narrow .boolean (.int r) = .int r := by
  unfold f_X12_isPeak at hf
  by_cases c1 : p1 = (4 : Int32)
  · rw [if_pos c1] at hf
    by_cases c2 : p1 = (60 : Int32)
    · rw [if_pos c2] at hf
      have hf := Option.some.inj hf
      subst hf
      exact am_z1
    · rw [if_neg c2] at hf
      obtain ⟨x3, g4, hf⟩ := am_bd hf
      obtain ⟨x5, g6, hf⟩ := am_bd hf
      by_cases c7 : (lg_cmp x3 x5) < 0
      · rw [if_pos c7] at hf
        have hf := Option.some.inj hf
        subst hf
        exact am_z0
      · rw [if_neg c7] at hf
        have hf := Option.some.inj hf
        subst hf
        exact am_z1
  · rw [if_neg c1] at hf
    obtain ⟨x8, g9, hf⟩ := am_bd hf
    obtain ⟨x10, g11, hf⟩ := am_bd hf
    by_cases c12 : (lg_cmp x8 x10) ≤ 0
    · rw [if_pos c12] at hf
      have hf := Option.some.inj hf
      subst hf
      exact am_z0
    · rw [if_neg c12] at hf
      by_cases c13 : p1 = (60 : Int32)
      · rw [if_pos c13] at hf
        have hf := Option.some.inj hf
        subst hf
        exact am_z1
      · rw [if_neg c13] at hf
        obtain ⟨x14, g15, hf⟩ := am_bd hf
        obtain ⟨x16, g17, hf⟩ := am_bd hf
        by_cases c18 : (lg_cmp x14 x16) < 0
        · rw [if_pos c18] at hf
          have hf := Option.some.inj hf
          subst hf
          exact am_z0
        · rw [if_neg c18] at hf
          have hf := Option.some.inj hf
          subst hf
          exact am_z1
def f_X12_peak_L52 (q4 : Int32) (q5 : Int32) (D : am_D) : Nat → Int32 → Int32 → Option (Int32)
  | 0, _, _ => none
  | n + 1, v6, v7 =>
    if (60 : Int32) < v7 then
    some (v6)
    else
    (f_X12_isPeak v7 D).bind fun x14 =>
    (if x14 = 0 then
    some ((0 : Int32))
    else
    (am_gL D 2632 62 v7).bind fun x17 =>
    (am_gL D 2632 62 q5).bind fun x19 =>
    if 0 < (lg_cmp x17 x19) then
    some ((1 : Int32))
    else
    (am_gL D 2632 62 v7).bind fun x22 =>
    (am_gL D 2632 62 q5).bind fun x24 =>
    if (lg_cmp x22 x24) = 0 then
    if q5 ≤ v7 then
    some ((0 : Int32))
    else
    some ((1 : Int32))
    else
    some ((0 : Int32))).bind fun w28 =>
    f_X12_peak_L52 q4 q5 D n (v6 + w28) (v7 + (1 : Int32))
def f_X12_peak_L27 (q4 : Int32) (D : am_D) : Nat → Int32 → Option (Int32 ⊕ Unit)
  | 0, _ => none
  | n + 1, v5 =>
    if (60 : Int32) < v5 then
    some (.inr ())
    else
    (f_X12_isPeak v5 D).bind fun x10 =>
    if x10 = 0 then
    f_X12_peak_L27 q4 D n (v5 + (1 : Int32))
    else
    (f_X12_peak_L52 q4 v5 D am_fu (0 : Int32) (4 : Int32)).bind fun e30 =>
    if e30 = q4 then
    some (.inl (v5))
    else
    f_X12_peak_L27 q4 D n (v5 + (1 : Int32))
def f_X12_peak (p1 : Int32) (p2 : Int32) (p3 : Int32) (p4 : Int32) (D : am_D) : Option ((Int32 × am_D)) :=
    (some (am_wI D 117 0 (0 : Int32))).bind fun D1 =>
    (f_X12_badRow p1 p2 p3 D1).bind fun x4 =>
    if x4.1 = 0 then
    (f_X12_findStrengths p1 p2 p3 x4.2).bind fun x7 =>
    am_b2 (f_X12_peak_L27 p4 x7 am_fu (4 : Int32))
    (fun e33 =>
    some (e33, x7))
    (fun e34 =>
    some ((-1 : Int32), x7))
    else
    some ((0 : Int32), x4.2)
set_option maxRecDepth 100000 in
set_option maxHeartbeats 4000000 in
theorem l_X12_peak_L52 {E : am_E} (hE : am_EH E) {d mc ms : Nat} {o : am_O} {G2 : am_G} {D2 : am_D} (hdp : 5 ≤ d) {q4 : Int32} {q5 : Int32} {D : am_D}  : ∀ (n : Nat) (v6 : Int32) (v7 : Int32) (ex0 : Int32), f_X12_peak_L52 q4 q5 D n v6 v7 = some ex0 → (∀ ex : Int32, ex0 = ex → am_S E mX12_peak d mc ms o G2 D2 0 0 127 [(0, .ref 117), (4, .int q4), (5, .int q5), (6, .int ex)] [] am_G0 D) → am_S E mX12_peak d mc ms o G2 D2 0 0 52 [(0, .ref 117), (4, .int q4), (5, .int q5), (6, .int v6), (7, .int v7)] [] am_G0 D
  | 0, _, _, _, hf, _ => by
    unfold f_X12_peak_L52 at hf
    cases hf
  | n + 1, v6, v7, ex0, hf, hk0 => by
    unfold f_X12_peak_L52 at hf
    refine am_iload (am_dec tmX12_peak_0 30 rfl) rfl ?_
    refine am_bipush (v := (60 : Int32)) (am_dec tmX12_peak_0 31 rfl) (by decide) ?_
    refine am_icmp_gt (tgt := 127) (am_dec tmX12_peak_0 32 rfl) (by decide) (fun c12 => ?_) (fun c12 => ?_)
    · rw [if_pos c12] at hf
      have hf := Option.some.inj hf
      subst hf
      exact am_pick [0, 1, 2, 3] rfl (hk0 _ rfl)
    · rw [if_neg c12] at hf
      refine am_iload (am_dec tmX12_peak_0 33 rfl) rfl ?_
      refine am_aload_n (am_dec tmX12_peak_0 34 rfl) rfl rfl ?_
      refine am_iload (am_dec tmX12_peak_0 35 rfl) rfl ?_
      obtain ⟨x14, g13, hf⟩ := am_bd hf
      refine am_callV1 (As := [.int v7]) (st := [.int v6]) hE (am_dec tmX12_peak_0 36 rfl) ok_X12_isPeak rfl lm_X12_405 in_X12_isPeak se_X12_isPeak sh_117 cf12 (c_X12_isPeak hE g13) rfl (Nat.lt_of_lt_of_le (by decide) hdp) (Nat.le_of_ble_eq_true rfl) (Nat.zero_le _) (Nat.zero_le _) rfl ?_
      obtain ⟨w28, g29, hf⟩ := am_bd hf
      have key16 : am_S E mX12_peak d mc ms o G2 D2 0 0 118 [(0, .ref 117), (4, .int q4), (5, .int q5), (7, .int v7)] [.int w28, .int v6] am_G0 D := by
        refine am_iadd (am_dec tmX12_peak_1 4 rfl) ?_
        refine am_istore (lv' := [(0, .ref 117), (4, .int q4), (5, .int q5), (6, .int (v6 + w28)), (7, .int v7)]) (am_dec tmX12_peak_1 5 rfl) (by decide) rfl ?_
        refine am_iinc (v := (1 : Int32)) (lv' := [(0, .ref 117), (4, .int q4), (5, .int q5), (6, .int (v6 + w28)), (7, .int (v7 + (1 : Int32)))]) (am_dec tmX12_peak_1 6 rfl) rfl (by decide) (by decide) rfl ?_
        refine am_goto (tgt := 52) (am_dec tmX12_peak_1 7 rfl) (by decide) ?_
        exact am_pick [0, 1, 2, 3, 4] rfl (l_X12_peak_L52 hE hdp n (v6 + w28) (v7 + (1 : Int32)) ex0 hf hk0)
      replace hf := g29
      refine am_if_eq (tgt := 117) (am_dec tmX12_peak_0 37 rfl) (by decide) (fun c15 => ?_) (fun c15 => ?_)
      · rw [if_pos c15] at hf
        refine am_iconst (v := (0 : Int32)) (am_dec tmX12_peak_1 3 rfl) (by decide) ?_
        have hf := Option.some.inj hf
        subst hf
        exact am_pick [0, 1, 2, 4] rfl key16
      · rw [if_neg c15] at hf
        refine am_aload_n (am_dec tmX12_peak_0 38 rfl) rfl rfl ?_
        refine am_getR (j := 54) hE (am_dec tmX12_peak_0 39 rfl) sh_117 cf12 (by decide) rfl lf_X12_103 rf_117_54 ?_
        refine am_iload (am_dec tmX12_peak_0 40 rfl) rfl ?_
        obtain ⟨x17, g18, hf⟩ := am_bd hf
        refine am_lald2 hE (am_dec tmX12_peak_0 41 rfl) sh_2632 g18 ?_
        refine am_aload_n (am_dec tmX12_peak_0 42 rfl) rfl rfl ?_
        refine am_getR (j := 54) hE (am_dec tmX12_peak_0 43 rfl) sh_117 cf12 (by decide) rfl lf_X12_103 rf_117_54 ?_
        refine am_iload (am_dec tmX12_peak_0 44 rfl) rfl ?_
        obtain ⟨x19, g20, hf⟩ := am_bd hf
        refine am_lald2 hE (am_dec tmX12_peak_0 45 rfl) sh_2632 g20 ?_
        refine am_lcmp (am_dec tmX12_peak_0 46 rfl) ?_
        refine am_if_gt (tgt := 113) (am_dec tmX12_peak_0 47 rfl) (by decide) (fun c21 => ?_) (fun c21 => ?_)
        · rw [if_pos c21] at hf
          refine am_iconst (v := (1 : Int32)) (am_dec tmX12_peak_1 1 rfl) (by decide) ?_
          refine am_goto (tgt := 118) (am_dec tmX12_peak_1 2 rfl) (by decide) ?_
          have hf := Option.some.inj hf
          subst hf
          exact am_pick [0, 1, 2, 4] rfl key16
        · rw [if_neg c21] at hf
          refine am_aload_n (am_dec tmX12_peak_0 48 rfl) rfl rfl ?_
          refine am_getR (j := 54) hE (am_dec tmX12_peak_0 49 rfl) sh_117 cf12 (by decide) rfl lf_X12_103 rf_117_54 ?_
          refine am_iload (am_dec tmX12_peak_0 50 rfl) rfl ?_
          obtain ⟨x22, g23, hf⟩ := am_bd hf
          refine am_lald2 hE (am_dec tmX12_peak_0 51 rfl) sh_2632 g23 ?_
          refine am_aload_n (am_dec tmX12_peak_0 52 rfl) rfl rfl ?_
          refine am_getR (j := 54) hE (am_dec tmX12_peak_0 53 rfl) sh_117 cf12 (by decide) rfl lf_X12_103 rf_117_54 ?_
          refine am_iload (am_dec tmX12_peak_0 54 rfl) rfl ?_
          obtain ⟨x24, g25, hf⟩ := am_bd hf
          refine am_lald2 hE (am_dec tmX12_peak_0 55 rfl) sh_2632 g25 ?_
          refine am_lcmp (am_dec tmX12_peak_0 56 rfl) ?_
          refine am_if_ne (tgt := 117) (am_dec tmX12_peak_0 57 rfl) (by decide) (fun c26 => ?_) (fun c26 => ?_)
          · rw [if_neg c26] at hf
            refine am_iconst (v := (0 : Int32)) (am_dec tmX12_peak_1 3 rfl) (by decide) ?_
            have hf := Option.some.inj hf
            subst hf
            exact am_pick [0, 1, 2, 4] rfl key16
          · rw [if_pos c26] at hf
            refine am_iload (am_dec tmX12_peak_0 58 rfl) rfl ?_
            refine am_iload (am_dec tmX12_peak_0 59 rfl) rfl ?_
            refine am_icmp_ge (tgt := 117) (am_dec tmX12_peak_1 0 rfl) (by decide) (fun c27 => ?_) (fun c27 => ?_)
            · rw [if_pos c27] at hf
              refine am_iconst (v := (0 : Int32)) (am_dec tmX12_peak_1 3 rfl) (by decide) ?_
              have hf := Option.some.inj hf
              subst hf
              exact am_pick [0, 1, 2, 4] rfl key16
            · rw [if_neg c27] at hf
              refine am_iconst (v := (1 : Int32)) (am_dec tmX12_peak_1 1 rfl) (by decide) ?_
              refine am_goto (tgt := 118) (am_dec tmX12_peak_1 2 rfl) (by decide) ?_
              have hf := Option.some.inj hf
              subst hf
              exact am_pick [0, 1, 2, 4] rfl key16
set_option maxRecDepth 100000 in
set_option maxHeartbeats 4000000 in
theorem l_X12_peak_L27 {E : am_E} (hE : am_EH E) {d mc ms : Nat} {o : am_O} {G2 : am_G} {D2 : am_D} (hdp : 5 ≤ d) {q4 : Int32} {D : am_D}  : ∀ (n : Nat) (v5 : Int32) (ex0 : Int32 ⊕ Unit), f_X12_peak_L27 q4 D n v5 = some ex0 → (∀ ex : Int32, ex0 = .inl ex → am_S E mX12_peak d mc ms o G2 D2 0 0 134 [(5, .int ex)] [] am_G0 D) → (∀ ex : Unit, ex0 = .inr ex → am_S E mX12_peak d mc ms o G2 D2 0 0 143 [] [] am_G0 D) → am_S E mX12_peak d mc ms o G2 D2 0 0 27 [(0, .ref 117), (4, .int q4), (5, .int v5)] [] am_G0 D
  | 0, _, _, hf, _, _ => by
    unfold f_X12_peak_L27 at hf
    cases hf
  | n + 1, v5, ex0, hf, hk0, hk1 => by
    unfold f_X12_peak_L27 at hf
    refine am_iload (am_dec tmX12_peak_0 18 rfl) rfl ?_
    refine am_bipush (v := (60 : Int32)) (am_dec tmX12_peak_0 19 rfl) (by decide) ?_
    refine am_icmp_gt (tgt := 143) (am_dec tmX12_peak_0 20 rfl) (by decide) (fun c8 => ?_) (fun c8 => ?_)
    · rw [if_pos c8] at hf
      have hf := Option.some.inj hf
      subst hf
      exact am_pick [] rfl (hk1 _ rfl)
    · rw [if_neg c8] at hf
      refine am_aload_n (am_dec tmX12_peak_0 21 rfl) rfl rfl ?_
      refine am_iload (am_dec tmX12_peak_0 22 rfl) rfl ?_
      obtain ⟨x10, g9, hf⟩ := am_bd hf
      refine am_callV1 (As := [.int v5]) (st := []) hE (am_dec tmX12_peak_0 23 rfl) ok_X12_isPeak rfl lm_X12_405 in_X12_isPeak se_X12_isPeak sh_117 cf12 (c_X12_isPeak hE g9) rfl (Nat.lt_of_lt_of_le (by decide) hdp) (Nat.le_of_ble_eq_true rfl) (Nat.zero_le _) (Nat.zero_le _) rfl ?_
      refine am_if_ne (tgt := 46) (am_dec tmX12_peak_0 24 rfl) (by decide) (fun c11 => ?_) (fun c11 => ?_)
      · rw [if_neg c11] at hf
        refine am_iconst (v := (0 : Int32)) (am_dec tmX12_peak_0 26 rfl) (by decide) ?_
        refine am_istore (lv' := [(0, .ref 117), (4, .int q4), (5, .int v5), (6, .int (0 : Int32))]) (am_dec tmX12_peak_0 27 rfl) (by decide) rfl ?_
        refine am_iconst (v := (4 : Int32)) (am_dec tmX12_peak_0 28 rfl) (by decide) ?_
        refine am_istore (lv' := [(0, .ref 117), (4, .int q4), (5, .int v5), (6, .int (0 : Int32)), (7, .int (4 : Int32))]) (am_dec tmX12_peak_0 29 rfl) (by decide) rfl ?_
        obtain ⟨e30, g32, hf⟩ := am_bd hf
        refine am_pick [0, 1, 2, 3, 4] rfl (l_X12_peak_L52 hE hdp am_fu _ _ _ g32 (fun ex he => ?_))
        subst he
        refine am_iload (am_dec tmX12_peak_1 8 rfl) rfl ?_
        refine am_iload (am_dec tmX12_peak_1 9 rfl) rfl ?_
        refine am_icmp_ne (tgt := 137) (am_dec tmX12_peak_1 10 rfl) (by decide) (fun c31 => ?_) (fun c31 => ?_)
        · rw [if_neg c31] at hf
          refine am_iinc (v := (1 : Int32)) (lv' := [(0, .ref 117), (4, .int q4), (5, .int (v5 + (1 : Int32))), (6, .int e30)]) (am_dec tmX12_peak_1 13 rfl) rfl (by decide) (by decide) rfl ?_
          refine am_goto (tgt := 27) (am_dec tmX12_peak_1 14 rfl) (by decide) ?_
          exact am_pick [0, 1, 2] rfl (l_X12_peak_L27 hE hdp n (v5 + (1 : Int32)) ex0 hf hk0 hk1)
        · rw [if_pos c31] at hf
          have hf := Option.some.inj hf
          subst hf
          exact am_pick [2] rfl (hk0 _ rfl)
      · rw [if_pos c11] at hf
        refine am_goto (tgt := 137) (am_dec tmX12_peak_0 25 rfl) (by decide) ?_
        refine am_iinc (v := (1 : Int32)) (lv' := [(0, .ref 117), (4, .int q4), (5, .int (v5 + (1 : Int32)))]) (am_dec tmX12_peak_1 13 rfl) rfl (by decide) (by decide) rfl ?_
        refine am_goto (tgt := 27) (am_dec tmX12_peak_1 14 rfl) (by decide) ?_
        exact am_pick [0, 1, 2] rfl (l_X12_peak_L27 hE hdp n (v5 + (1 : Int32)) ex0 hf hk0 hk1)
set_option maxRecDepth 100000 in
set_option maxHeartbeats 4000000 in
theorem c_X12_peak {E : am_E} (hE : am_EH E) {p1 : Int32} {p2 : Int32} {p3 : Int32} {p4 : Int32} {D : am_D} {r : (Int32 × am_D)}  (hf : f_X12_peak p1 p2 p3 p4 D = some r) : am_C E mX12_peak 5 0 0 [.ref 117, .int p1, .int p2, .int p3, .int p4] am_G0 D (.inl (some (.int r.1))) am_G0 r.2 := by
  refine am_C_of (by decide +kernel) (Nat.le_of_ble_eq_true rfl) ?_
  change am_S E mX12_peak 5 0 0 (.inl (some (.int r.1))) am_G0 r.2 0 0 0 [(0, .ref 117), (1, .int p1), (2, .int p2), (3, .int p3), (4, .int p4)] [] am_G0 D
  unfold f_X12_peak at hf
  refine am_aload_n (am_dec tmX12_peak_0 0 rfl) rfl rfl ?_
  refine am_iconst (v := (0 : Int32)) (am_dec tmX12_peak_0 1 rfl) (by decide) ?_
  obtain ⟨D1, g2, hf⟩ := am_bd hf
  refine am_putI2 (j := 0) hE (am_dec tmX12_peak_0 2 rfl) sh_117 cf12 (by decide) rfl lf_X12_110 rfl rfl rfl g2 ?_
  refine am_aload_n (am_dec tmX12_peak_0 3 rfl) rfl rfl ?_
  refine am_iload_n (am_dec tmX12_peak_0 4 rfl) rfl rfl ?_
  refine am_iload_n (am_dec tmX12_peak_0 5 rfl) rfl rfl ?_
  refine am_iload_n (am_dec tmX12_peak_0 6 rfl) rfl rfl ?_
  obtain ⟨x4, g3, hf⟩ := am_bd hf
  refine am_callV1 (As := [.int p1, .int p2, .int p3]) (st := []) hE (am_dec tmX12_peak_0 7 rfl) ok_X12_badRow rfl lm_X12_348 in_X12_badRow se_X12_badRow sh_117 cf12 (c_X12_badRow hE g3) rfl (by decide) (Nat.le_of_ble_eq_true rfl) (Nat.zero_le _) (Nat.zero_le _) rfl ?_
  refine am_if_eq (tgt := 17) (am_dec tmX12_peak_0 8 rfl) (by decide) (fun c5 => ?_) (fun c5 => ?_)
  · rw [if_pos c5] at hf
    refine am_aload_n (am_dec tmX12_peak_0 11 rfl) rfl rfl ?_
    refine am_iload_n (am_dec tmX12_peak_0 12 rfl) rfl rfl ?_
    refine am_iload_n (am_dec tmX12_peak_0 13 rfl) rfl rfl ?_
    refine am_iload_n (am_dec tmX12_peak_0 14 rfl) rfl rfl ?_
    obtain ⟨x7, g6, hf⟩ := am_bd hf
    refine am_callV0 (As := [.int p1, .int p2, .int p3]) (st := []) hE (am_dec tmX12_peak_0 15 rfl) ok_X12_findStrengths rfl lm_X12_401 in_X12_findStrengths se_X12_findStrengths sh_117 cf12 (c_X12_findStrengths hE g6) rfl (by decide) (Nat.le_of_ble_eq_true rfl) (Nat.zero_le _) (Nat.zero_le _) rfl ?_
    refine am_iconst (v := (4 : Int32)) (am_dec tmX12_peak_0 16 rfl) (by decide) ?_
    refine am_istore (lv' := [(0, .ref 117), (1, .int p1), (2, .int p2), (3, .int p3), (4, .int p4), (5, .int (4 : Int32))]) (am_dec tmX12_peak_0 17 rfl) (by decide) rfl ?_
    rcases am_b2d hf with ⟨e33, g35, hf⟩ | ⟨e34, g35, hf⟩
    · refine am_pick [0, 4, 5] rfl (l_X12_peak_L27 hE (Nat.le_refl _) am_fu _ _ g35 (fun ex he => ?_) (fun ex he => by cases he))
      cases he
      refine am_iload (am_dec tmX12_peak_1 11 rfl) rfl ?_
      have hf := Option.some.inj hf
      subst hf
      exact am_iret (am_dec tmX12_peak_1 12 rfl) rfl (Nat.zero_le _) (Nat.zero_le _)
    · refine am_pick [0, 4, 5] rfl (l_X12_peak_L27 hE (Nat.le_refl _) am_fu _ _ g35 (fun ex he => by cases he) (fun ex he => ?_))
      cases he
      refine am_iconst (v := (-1 : Int32)) (am_dec tmX12_peak_1 15 rfl) (by decide) ?_
      have hf := Option.some.inj hf
      subst hf
      exact am_iret (am_dec tmX12_peak_1 16 rfl) rfl (Nat.zero_le _) (Nat.zero_le _)
  · rw [if_neg c5] at hf
    refine am_iconst (v := (0 : Int32)) (am_dec tmX12_peak_0 9 rfl) (by decide) ?_
    have hf := Option.some.inj hf
    subst hf
    exact am_iret (am_dec tmX12_peak_0 10 rfl) rfl (Nat.zero_le _) (Nat.zero_le _)
def f_X12_lock_L55 (q2 : Int32) (D : am_D) : Nat → Int32 → Int32 → Option (Int32)
  | 0, _, _ => none
  | n + 1, v5, v6 =>
    if (60 : Int32) < v6 then
    some (v5)
    else
    (f_X12_isPeak v6 D).bind fun x18 =>
    (if x18 = 0 then
    some (v5)
    else
    if v5 = (-1 : Int32) then
    some (v6)
    else
    (f_X12_amount (v6 - q2)).bind fun x23 =>
    (f_X12_amount (v5 - q2)).bind fun x25 =>
    if x25 ≤ x23 then
    some (v5)
    else
    some (v6)).bind fun w27 =>
    f_X12_lock_L55 q2 D n w27 (v6 + (1 : Int32))
def f_X12_lock (p1 : Int32) (p2 : Int32) (p3 : Int32) (p4 : Int32) (D : am_D) : Option ((Int32 × am_D)) :=
    (some (am_wI D 117 0 (0 : Int32))).bind fun D1 =>
    (f_X12_badRow p1 p3 p4 D1).bind fun x4 =>
    if x4.1 = 0 then
    (f_X12_in p2 (4 : Int32) (60 : Int32)).bind fun x7 =>
    (if x7 = 0 then
    some ((1 : Int32))
    else
    some ((0 : Int32))).bind fun w10 =>
    (f_X12_bad w10 (2 : Int32) x4.2).bind fun x12 =>
    if x12.1 = 0 then
    (f_X12_findStrengths p1 p3 p4 x12.2).bind fun x15 =>
    (f_X12_lock_L55 p2 x15 am_fu (-1 : Int32) (4 : Int32)).bind fun e29 =>
    some (e29, x15)
    else
    some ((0 : Int32), x12.2)
    else
    some ((0 : Int32), x4.2)
set_option maxRecDepth 100000 in
set_option maxHeartbeats 4000000 in
theorem l_X12_lock_L55 {E : am_E} (hE : am_EH E) {d mc ms : Nat} {o : am_O} {G2 : am_G} {D2 : am_D} (hdp : 5 ≤ d) {q2 : Int32} {D : am_D}  : ∀ (n : Nat) (v5 : Int32) (v6 : Int32) (ex0 : Int32), f_X12_lock_L55 q2 D n v5 v6 = some ex0 → (∀ ex : Int32, ex0 = ex → am_S E mX12_lock d mc ms o G2 D2 0 0 104 [(5, .int ex)] [] am_G0 D) → am_S E mX12_lock d mc ms o G2 D2 0 0 55 [(0, .ref 117), (2, .int q2), (5, .int v5), (6, .int v6)] [] am_G0 D
  | 0, _, _, _, hf, _ => by
    unfold f_X12_lock_L55 at hf
    cases hf
  | n + 1, v5, v6, ex0, hf, hk0 => by
    unfold f_X12_lock_L55 at hf
    refine am_iload (am_dec tmX12_lock 32 rfl) rfl ?_
    refine am_bipush (v := (60 : Int32)) (am_dec tmX12_lock 33 rfl) (by decide) ?_
    refine am_icmp_gt (tgt := 104) (am_dec tmX12_lock 34 rfl) (by decide) (fun c16 => ?_) (fun c16 => ?_)
    · rw [if_pos c16] at hf
      have hf := Option.some.inj hf
      subst hf
      exact am_pick [2] rfl (hk0 _ rfl)
    · rw [if_neg c16] at hf
      refine am_aload_n (am_dec tmX12_lock 35 rfl) rfl rfl ?_
      refine am_iload (am_dec tmX12_lock 36 rfl) rfl ?_
      obtain ⟨x18, g17, hf⟩ := am_bd hf
      refine am_callV1 (As := [.int v6]) (st := []) hE (am_dec tmX12_lock 37 rfl) ok_X12_isPeak rfl lm_X12_405 in_X12_isPeak se_X12_isPeak sh_117 cf12 (c_X12_isPeak hE g17) rfl (Nat.lt_of_lt_of_le (by decide) hdp) (Nat.le_of_ble_eq_true rfl) (Nat.zero_le _) (Nat.zero_le _) rfl ?_
      obtain ⟨w27, g28, hf⟩ := am_bd hf
      have key20 : am_S E mX12_lock d mc ms o G2 D2 0 0 98 [(0, .ref 117), (2, .int q2), (5, .int w27), (6, .int v6)] [] am_G0 D := by
        refine am_iinc (v := (1 : Int32)) (lv' := [(0, .ref 117), (2, .int q2), (5, .int w27), (6, .int (v6 + (1 : Int32)))]) (am_dec tmX12_lock 53 rfl) rfl (by decide) (by decide) rfl ?_
        refine am_goto (tgt := 55) (am_dec tmX12_lock 54 rfl) (by decide) ?_
        exact am_pick [0, 1, 2, 3] rfl (l_X12_lock_L55 hE hdp n w27 (v6 + (1 : Int32)) ex0 hf hk0)
      replace hf := g28
      refine am_if_eq (tgt := 98) (am_dec tmX12_lock 38 rfl) (by decide) (fun c19 => ?_) (fun c19 => ?_)
      · rw [if_pos c19] at hf
        have hf := Option.some.inj hf
        subst hf
        exact am_pick [0, 1, 2, 3] rfl key20
      · rw [if_neg c19] at hf
        refine am_iload (am_dec tmX12_lock 39 rfl) rfl ?_
        refine am_iconst (v := (-1 : Int32)) (am_dec tmX12_lock 40 rfl) (by decide) ?_
        refine am_icmp_eq (tgt := 94) (am_dec tmX12_lock 41 rfl) (by decide) (fun c21 => ?_) (fun c21 => ?_)
        · rw [if_pos c21] at hf
          refine am_iload (am_dec tmX12_lock 51 rfl) rfl ?_
          refine am_istore (lv' := [(0, .ref 117), (2, .int q2), (5, .int v6), (6, .int v6)]) (am_dec tmX12_lock 52 rfl) (by decide) rfl ?_
          have hf := Option.some.inj hf
          subst hf
          exact am_pick [0, 1, 2, 3] rfl key20
        · rw [if_neg c21] at hf
          refine am_iload (am_dec tmX12_lock 42 rfl) rfl ?_
          refine am_iload_n (am_dec tmX12_lock 43 rfl) rfl rfl ?_
          refine am_isub (am_dec tmX12_lock 44 rfl) ?_
          obtain ⟨x23, g22, hf⟩ := am_bd hf
          refine am_callS1 (As := [.int (v6 - q2)]) (st := []) (am_dec tmX12_lock 45 rfl) ok_X12_amount rfl lm_X12_281 st_X12_amount (c_X12_amount hE g22) rfl (Nat.lt_of_lt_of_le (by decide) hdp) (Nat.le_of_ble_eq_true rfl) (Nat.zero_le _) (Nat.zero_le _) rfl ?_
          refine am_iload (am_dec tmX12_lock 46 rfl) rfl ?_
          refine am_iload_n (am_dec tmX12_lock 47 rfl) rfl rfl ?_
          refine am_isub (am_dec tmX12_lock 48 rfl) ?_
          obtain ⟨x25, g24, hf⟩ := am_bd hf
          refine am_callS1 (As := [.int (v5 - q2)]) (st := [.int x23]) (am_dec tmX12_lock 49 rfl) ok_X12_amount rfl lm_X12_281 st_X12_amount (c_X12_amount hE g24) rfl (Nat.lt_of_lt_of_le (by decide) hdp) (Nat.le_of_ble_eq_true rfl) (Nat.zero_le _) (Nat.zero_le _) rfl ?_
          refine am_icmp_ge (tgt := 98) (am_dec tmX12_lock 50 rfl) (by decide) (fun c26 => ?_) (fun c26 => ?_)
          · rw [if_pos c26] at hf
            have hf := Option.some.inj hf
            subst hf
            exact am_pick [0, 1, 2, 3] rfl key20
          · rw [if_neg c26] at hf
            refine am_iload (am_dec tmX12_lock 51 rfl) rfl ?_
            refine am_istore (lv' := [(0, .ref 117), (2, .int q2), (5, .int v6), (6, .int v6)]) (am_dec tmX12_lock 52 rfl) (by decide) rfl ?_
            have hf := Option.some.inj hf
            subst hf
            exact am_pick [0, 1, 2, 3] rfl key20
set_option maxRecDepth 100000 in
set_option maxHeartbeats 4000000 in
theorem c_X12_lock {E : am_E} (hE : am_EH E) {p1 : Int32} {p2 : Int32} {p3 : Int32} {p4 : Int32} {D : am_D} {r : (Int32 × am_D)}  (hf : f_X12_lock p1 p2 p3 p4 D = some r) : am_C E mX12_lock 5 0 0 [.ref 117, .int p1, .int p2, .int p3, .int p4] am_G0 D (.inl (some (.int r.1))) am_G0 r.2 := by
  refine am_C_of (by decide +kernel) (Nat.le_of_ble_eq_true rfl) ?_
  change am_S E mX12_lock 5 0 0 (.inl (some (.int r.1))) am_G0 r.2 0 0 0 [(0, .ref 117), (1, .int p1), (2, .int p2), (3, .int p3), (4, .int p4)] [] am_G0 D
  unfold f_X12_lock at hf
  refine am_aload_n (am_dec tmX12_lock 0 rfl) rfl rfl ?_
  refine am_iconst (v := (0 : Int32)) (am_dec tmX12_lock 1 rfl) (by decide) ?_
  obtain ⟨D1, g2, hf⟩ := am_bd hf
  refine am_putI2 (j := 0) hE (am_dec tmX12_lock 2 rfl) sh_117 cf12 (by decide) rfl lf_X12_110 rfl rfl rfl g2 ?_
  refine am_aload_n (am_dec tmX12_lock 3 rfl) rfl rfl ?_
  refine am_iload_n (am_dec tmX12_lock 4 rfl) rfl rfl ?_
  refine am_iload_n (am_dec tmX12_lock 5 rfl) rfl rfl ?_
  refine am_iload (am_dec tmX12_lock 6 rfl) rfl ?_
  obtain ⟨x4, g3, hf⟩ := am_bd hf
  refine am_callV1 (As := [.int p1, .int p3, .int p4]) (st := []) hE (am_dec tmX12_lock 7 rfl) ok_X12_badRow rfl lm_X12_348 in_X12_badRow se_X12_badRow sh_117 cf12 (c_X12_badRow hE g3) rfl (by decide) (Nat.le_of_ble_eq_true rfl) (Nat.zero_le _) (Nat.zero_le _) rfl ?_
  refine am_if_ne (tgt := 39) (am_dec tmX12_lock 8 rfl) (by decide) (fun c5 => ?_) (fun c5 => ?_)
  · rw [if_neg c5] at hf
    refine am_iconst (v := (0 : Int32)) (am_dec tmX12_lock 21 rfl) (by decide) ?_
    have hf := Option.some.inj hf
    subst hf
    exact am_iret (am_dec tmX12_lock 22 rfl) rfl (Nat.zero_le _) (Nat.zero_le _)
  · rw [if_pos c5] at hf
    refine am_aload_n (am_dec tmX12_lock 9 rfl) rfl rfl ?_
    refine am_iload_n (am_dec tmX12_lock 10 rfl) rfl rfl ?_
    refine am_iconst (v := (4 : Int32)) (am_dec tmX12_lock 11 rfl) (by decide) ?_
    refine am_bipush (v := (60 : Int32)) (am_dec tmX12_lock 12 rfl) (by decide) ?_
    obtain ⟨x7, g6, hf⟩ := am_bd hf
    refine am_callS1 (As := [.int p2, .int (4 : Int32), .int (60 : Int32)]) (st := [.ref 117]) (am_dec tmX12_lock 13 rfl) ok_X12_in rfl lm_X12_144 st_X12_in (c_X12_in hE g6) rfl (by decide) (Nat.le_of_ble_eq_true rfl) (Nat.zero_le _) (Nat.zero_le _) rfl ?_
    obtain ⟨w10, g31, hf⟩ := am_bd hf
    have key9 : am_S E mX12_lock 5 0 0 (.inl (some (.int r.1))) am_G0 r.2 0 0 32 [(0, .ref 117), (1, .int p1), (2, .int p2), (3, .int p3), (4, .int p4)] [.int w10, .ref 117] am_G0 x4.2 := by
      refine am_iconst (v := (2 : Int32)) (am_dec tmX12_lock 18 rfl) (by decide) ?_
      obtain ⟨x12, g11, hf⟩ := am_bd hf
      refine am_callV1 (As := [.int w10, .int (2 : Int32)]) (st := []) hE (am_dec tmX12_lock 19 rfl) ok_X12_bad rfl lm_X12_191 in_X12_bad se_X12_bad sh_117 cf12 (c_X12_bad hE g11) rfl (by decide) (Nat.le_of_ble_eq_true rfl) (Nat.zero_le _) (Nat.zero_le _) rfl ?_
      refine am_if_eq (tgt := 41) (am_dec tmX12_lock 20 rfl) (by decide) (fun c13 => ?_) (fun c13 => ?_)
      · rw [if_pos c13] at hf
        refine am_aload_n (am_dec tmX12_lock 23 rfl) rfl rfl ?_
        refine am_iload_n (am_dec tmX12_lock 24 rfl) rfl rfl ?_
        refine am_iload_n (am_dec tmX12_lock 25 rfl) rfl rfl ?_
        refine am_iload (am_dec tmX12_lock 26 rfl) rfl ?_
        obtain ⟨x15, g14, hf⟩ := am_bd hf
        refine am_callV0 (As := [.int p1, .int p3, .int p4]) (st := []) hE (am_dec tmX12_lock 27 rfl) ok_X12_findStrengths rfl lm_X12_401 in_X12_findStrengths se_X12_findStrengths sh_117 cf12 (c_X12_findStrengths hE g14) rfl (by decide) (Nat.le_of_ble_eq_true rfl) (Nat.zero_le _) (Nat.zero_le _) rfl ?_
        refine am_iconst (v := (-1 : Int32)) (am_dec tmX12_lock 28 rfl) (by decide) ?_
        refine am_istore (lv' := [(0, .ref 117), (1, .int p1), (2, .int p2), (3, .int p3), (4, .int p4), (5, .int (-1 : Int32))]) (am_dec tmX12_lock 29 rfl) (by decide) rfl ?_
        refine am_iconst (v := (4 : Int32)) (am_dec tmX12_lock 30 rfl) (by decide) ?_
        refine am_istore (lv' := [(0, .ref 117), (1, .int p1), (2, .int p2), (3, .int p3), (4, .int p4), (5, .int (-1 : Int32)), (6, .int (4 : Int32))]) (am_dec tmX12_lock 31 rfl) (by decide) rfl ?_
        obtain ⟨e29, g30, hf⟩ := am_bd hf
        refine am_pick [0, 2, 5, 6] rfl (l_X12_lock_L55 hE (Nat.le_refl _) am_fu _ _ _ g30 (fun ex he => ?_))
        subst he
        refine am_iload (am_dec tmX12_lock 55 rfl) rfl ?_
        have hf := Option.some.inj hf
        subst hf
        exact am_iret (am_dec tmX12_lock 56 rfl) rfl (Nat.zero_le _) (Nat.zero_le _)
      · rw [if_neg c13] at hf
        refine am_iconst (v := (0 : Int32)) (am_dec tmX12_lock 21 rfl) (by decide) ?_
        have hf := Option.some.inj hf
        subst hf
        exact am_iret (am_dec tmX12_lock 22 rfl) rfl (Nat.zero_le _) (Nat.zero_le _)
    replace hf := g31
    refine am_if_ne (tgt := 31) (am_dec tmX12_lock 14 rfl) (by decide) (fun c8 => ?_) (fun c8 => ?_)
    · rw [if_neg c8] at hf
      refine am_iconst (v := (0 : Int32)) (am_dec tmX12_lock 17 rfl) (by decide) ?_
      have hf := Option.some.inj hf
      subst hf
      exact am_pick [0, 1, 2, 3, 4] rfl key9
    · rw [if_pos c8] at hf
      refine am_iconst (v := (1 : Int32)) (am_dec tmX12_lock 15 rfl) (by decide) ?_
      refine am_goto (tgt := 32) (am_dec tmX12_lock 16 rfl) (by decide) ?_
      have hf := Option.some.inj hf
      subst hf
      exact am_pick [0, 1, 2, 3, 4] rfl key9
def f_X12_steady_L70 (q1 : Int32) (q2 : Int32) (q3 : Int32) (q4 : Int32) : Nat → Int32 → Int32 → am_D → Option (Int32 × am_D)
  | 0, _, _, _ => none
  | n + 1, v5, v6, D =>
    if q2 ≤ v6 then
    some (v5, D)
    else
    (am_pI D 2630 61 v5 v6).bind fun D16 =>
    f_X12_steady_L70 q1 q2 q3 q4 n (v5 + (1 : Int32)) (v6 + q3) D16
def f_X12_steady_L144 (q1 : Int32) (q2 : Int32) (q5 : Int32) : Nat → Int32 → Int32 → am_D → Option (Int32 × am_D)
  | 0, _, _, _ => none
  | n + 1, v4, v6, D =>
    if q5 ≤ v6 then
    some (v4, D)
    else
    (am_gI D 2630 61 v6).bind fun x31 =>
    (am_gI D 2631 600 x31).bind fun x33 =>
    (am_gI D 2631 600 (0 : Int32)).bind fun x35 =>
    (am_gI D 2631 600 (q2 - (1 : Int32))).bind fun x37 =>
    (am_gI D 2631 600 (0 : Int32)).bind fun x39 =>
    (am_gI D 2630 61 v6).bind fun x41 =>
    (am_dv ((x37 - x39) * x41) (q2 - (1 : Int32))).bind fun x43 =>
    (f_X12_rises v4 x33 (x35 + x43) D).bind fun x46 =>
    (if x46 = 0 then
    some (v4, D)
    else
    (am_gA 12 v4).bind fun j49 =>
    (am_pI D (121 + j49) 2 (0 : Int32) x33).bind fun D51 =>
    (am_gA 12 v4).bind fun j53 =>
    (am_pI D51 (121 + j53) 2 (1 : Int32) (x35 + x43)).bind fun D55 =>
    some ((v4 + (1 : Int32)), D55)).bind fun w57 =>
    f_X12_steady_L144 q1 q2 q5 n w57.1 (v6 + (1 : Int32)) w57.2
def f_X12_steady (p1 : Int32) (D : am_D) : Option ((Int32 × am_D)) :=
    (some (am_wI D 117 0 (0 : Int32))).bind fun D1 =>
    (f_X12_isSound p1 D1).bind fun x4 =>
    (if x4 = 0 then
    some ((1 : Int32))
    else
    some ((0 : Int32))).bind fun w7 =>
    (f_X12_bad w7 (1 : Int32) D1).bind fun x9 =>
    if x9.1 = 0 then
    if (x9.2.1 117 13) = (5 : Int32) then
    some ((-1 : Int32), x9.2)
    else
    (f_X12_findCrossings p1 x9.2).bind fun x13 =>
    if (2 : Int32) ≤ x13.1 then
    (f_X12_steady_L70 p1 x13.1 ((1 : Int32) + ((x13.1 - (1 : Int32)) / (11 : Int32))) (0 : Int32) am_fu (0 : Int32) (0 : Int32) x13.2).bind fun e18 =>
    (am_gI e18.2 2630 61 (e18.1 - (1 : Int32))).bind fun x19 =>
    (if x19 = (x13.1 - (1 : Int32)) then
    some (e18.1, e18.2)
    else
    (if e18.1 = (11 : Int32) then
    some ((10 : Int32))
    else
    some (e18.1)).bind fun w25 =>
    (am_pI e18.2 2630 61 w25 (x13.1 - (1 : Int32))).bind fun D26 =>
    some ((w25 + (1 : Int32)), D26)).bind fun w29 =>
    (f_X12_steady_L144 p1 x13.1 w29.1 am_fu (0 : Int32) (0 : Int32) w29.2).bind fun e59 =>
    (f_X12_endsMap p1 e59.1 e59.2).bind fun x61 =>
    some (x61.1, x61.2)
    else
    some ((-2 : Int32), x13.2)
    else
    some ((0 : Int32), x9.2)
set_option maxRecDepth 100000 in
set_option maxHeartbeats 4000000 in
theorem l_X12_steady_L70 {E : am_E} (hE : am_EH E) {d mc ms : Nat} {o : am_O} {G2 : am_G} {D2 : am_D} (hdp : 3 ≤ d) {q1 : Int32} {q2 : Int32} {q3 : Int32} {q4 : Int32}  : ∀ (n : Nat) (v5 : Int32) (v6 : Int32) (D : am_D) (ex0 : Int32 × am_D), f_X12_steady_L70 q1 q2 q3 q4 n v5 v6 D = some ex0 → (∀ ex : Int32 × am_D, ex0 = ex → am_S E mX12_steady d mc ms o G2 D2 0 0 97 [(0, .ref 117), (1, .int q1), (2, .int q2), (4, .int q4), (5, .int ex.1)] [] am_G0 ex.2) → am_S E mX12_steady d mc ms o G2 D2 0 0 70 [(0, .ref 117), (1, .int q1), (2, .int q2), (3, .int q3), (4, .int q4), (5, .int v5), (6, .int v6)] [] am_G0 D
  | 0, _, _, _, _, hf, _ => by
    unfold f_X12_steady_L70 at hf
    cases hf
  | n + 1, v5, v6, D, ex0, hf, hk0 => by
    unfold f_X12_steady_L70 at hf
    refine am_iload (am_dec tmX12_steady_0 45 rfl) rfl ?_
    refine am_iload_n (am_dec tmX12_steady_0 46 rfl) rfl rfl ?_
    refine am_icmp_ge (tgt := 97) (am_dec tmX12_steady_0 47 rfl) (by decide) (fun c15 => ?_) (fun c15 => ?_)
    · rw [if_pos c15] at hf
      have hf := Option.some.inj hf
      subst hf
      exact am_pick [0, 1, 2, 4, 5] rfl (hk0 _ rfl)
    · rw [if_neg c15] at hf
      refine am_aload_n (am_dec tmX12_steady_0 48 rfl) rfl rfl ?_
      refine am_getR (j := 52) hE (am_dec tmX12_steady_0 49 rfl) sh_117 cf12 (by decide) rfl lf_X12_97 rf_117_52 ?_
      refine am_iload (am_dec tmX12_steady_0 50 rfl) rfl ?_
      refine am_iload (am_dec tmX12_steady_0 51 rfl) rfl ?_
      obtain ⟨D16, g17, hf⟩ := am_bd hf
      refine am_iast2 hE (am_dec tmX12_steady_0 52 rfl) sh_2630 g17 ?_
      refine am_iinc (v := (1 : Int32)) (lv' := [(0, .ref 117), (1, .int q1), (2, .int q2), (3, .int q3), (4, .int q4), (5, .int (v5 + (1 : Int32))), (6, .int v6)]) (am_dec tmX12_steady_0 53 rfl) rfl (by decide) (by decide) rfl ?_
      refine am_iload (am_dec tmX12_steady_0 54 rfl) rfl ?_
      refine am_iload_n (am_dec tmX12_steady_0 55 rfl) rfl rfl ?_
      refine am_iadd (am_dec tmX12_steady_0 56 rfl) ?_
      refine am_istore (lv' := [(0, .ref 117), (1, .int q1), (2, .int q2), (3, .int q3), (4, .int q4), (5, .int (v5 + (1 : Int32))), (6, .int (v6 + q3))]) (am_dec tmX12_steady_0 57 rfl) (by decide) rfl ?_
      refine am_goto (tgt := 70) (am_dec tmX12_steady_0 58 rfl) (by decide) ?_
      exact am_pick [0, 1, 2, 3, 4, 5, 6] rfl (l_X12_steady_L70 hE hdp n (v5 + (1 : Int32)) (v6 + q3) D16 ex0 hf hk0)
set_option maxRecDepth 100000 in
set_option maxHeartbeats 4000000 in
theorem l_X12_steady_L144 {E : am_E} (hE : am_EH E) {d mc ms : Nat} {o : am_O} {G2 : am_G} {D2 : am_D} (hdp : 3 ≤ d) {q1 : Int32} {q2 : Int32} {q5 : Int32}  : ∀ (n : Nat) (v4 : Int32) (v6 : Int32) (D : am_D) (ex0 : Int32 × am_D), f_X12_steady_L144 q1 q2 q5 n v4 v6 D = some ex0 → (∀ ex : Int32 × am_D, ex0 = ex → am_S E mX12_steady d mc ms o G2 D2 0 0 248 [(0, .ref 117), (1, .int q1), (4, .int ex.1)] [] am_G0 ex.2) → am_S E mX12_steady d mc ms o G2 D2 0 0 144 [(0, .ref 117), (1, .int q1), (2, .int q2), (4, .int v4), (5, .int q5), (6, .int v6)] [] am_G0 D
  | 0, _, _, _, _, hf, _ => by
    unfold f_X12_steady_L144 at hf
    cases hf
  | n + 1, v4, v6, D, ex0, hf, hk0 => by
    unfold f_X12_steady_L144 at hf
    refine am_iload (am_dec tmX12_steady_1 26 rfl) rfl ?_
    refine am_iload (am_dec tmX12_steady_1 27 rfl) rfl ?_
    refine am_icmp_ge (tgt := 248) (am_dec tmX12_steady_1 28 rfl) (by decide) (fun c30 => ?_) (fun c30 => ?_)
    · rw [if_pos c30] at hf
      have hf := Option.some.inj hf
      subst hf
      exact am_pick [0, 1, 3] rfl (hk0 _ rfl)
    · rw [if_neg c30] at hf
      refine am_aload_n (am_dec tmX12_steady_1 29 rfl) rfl rfl ?_
      refine am_getR (j := 53) hE (am_dec tmX12_steady_1 30 rfl) sh_117 cf12 (by decide) rfl lf_X12_100 rf_117_53 ?_
      refine am_aload_n (am_dec tmX12_steady_1 31 rfl) rfl rfl ?_
      refine am_getR (j := 52) hE (am_dec tmX12_steady_1 32 rfl) sh_117 cf12 (by decide) rfl lf_X12_97 rf_117_52 ?_
      refine am_iload (am_dec tmX12_steady_1 33 rfl) rfl ?_
      obtain ⟨x31, g32, hf⟩ := am_bd hf
      refine am_iald2 hE (am_dec tmX12_steady_1 34 rfl) sh_2630 g32 ?_
      obtain ⟨x33, g34, hf⟩ := am_bd hf
      refine am_iald2 hE (am_dec tmX12_steady_1 35 rfl) sh_2631 g34 ?_
      refine am_istore (lv' := [(0, .ref 117), (1, .int q1), (2, .int q2), (4, .int v4), (5, .int q5), (6, .int v6), (7, .int x33)]) (am_dec tmX12_steady_1 36 rfl) (by decide) rfl ?_
      refine am_aload_n (am_dec tmX12_steady_1 37 rfl) rfl rfl ?_
      refine am_getR (j := 53) hE (am_dec tmX12_steady_1 38 rfl) sh_117 cf12 (by decide) rfl lf_X12_100 rf_117_53 ?_
      refine am_iconst (v := (0 : Int32)) (am_dec tmX12_steady_1 39 rfl) (by decide) ?_
      obtain ⟨x35, g36, hf⟩ := am_bd hf
      refine am_iald2 hE (am_dec tmX12_steady_1 40 rfl) sh_2631 g36 ?_
      refine am_aload_n (am_dec tmX12_steady_1 41 rfl) rfl rfl ?_
      refine am_getR (j := 53) hE (am_dec tmX12_steady_1 42 rfl) sh_117 cf12 (by decide) rfl lf_X12_100 rf_117_53 ?_
      refine am_iload_n (am_dec tmX12_steady_1 43 rfl) rfl rfl ?_
      refine am_iconst (v := (1 : Int32)) (am_dec tmX12_steady_1 44 rfl) (by decide) ?_
      refine am_isub (am_dec tmX12_steady_1 45 rfl) ?_
      obtain ⟨x37, g38, hf⟩ := am_bd hf
      refine am_iald2 hE (am_dec tmX12_steady_1 46 rfl) sh_2631 g38 ?_
      refine am_aload_n (am_dec tmX12_steady_1 47 rfl) rfl rfl ?_
      refine am_getR (j := 53) hE (am_dec tmX12_steady_1 48 rfl) sh_117 cf12 (by decide) rfl lf_X12_100 rf_117_53 ?_
      refine am_iconst (v := (0 : Int32)) (am_dec tmX12_steady_1 49 rfl) (by decide) ?_
      obtain ⟨x39, g40, hf⟩ := am_bd hf
      refine am_iald2 hE (am_dec tmX12_steady_1 50 rfl) sh_2631 g40 ?_
      refine am_isub (am_dec tmX12_steady_1 51 rfl) ?_
      refine am_aload_n (am_dec tmX12_steady_1 52 rfl) rfl rfl ?_
      refine am_getR (j := 52) hE (am_dec tmX12_steady_1 53 rfl) sh_117 cf12 (by decide) rfl lf_X12_97 rf_117_52 ?_
      refine am_iload (am_dec tmX12_steady_1 54 rfl) rfl ?_
      obtain ⟨x41, g42, hf⟩ := am_bd hf
      refine am_iald2 hE (am_dec tmX12_steady_1 55 rfl) sh_2630 g42 ?_
      refine am_imul (am_dec tmX12_steady_1 56 rfl) ?_
      refine am_iload_n (am_dec tmX12_steady_1 57 rfl) rfl rfl ?_
      refine am_iconst (v := (1 : Int32)) (am_dec tmX12_steady_1 58 rfl) (by decide) ?_
      refine am_isub (am_dec tmX12_steady_1 59 rfl) ?_
      obtain ⟨x43, g44, hf⟩ := am_bd hf
      refine am_idiv2 (am_dec tmX12_steady_2 0 rfl) g44 ?_
      refine am_iadd (am_dec tmX12_steady_2 1 rfl) ?_
      refine am_istore (lv' := [(0, .ref 117), (1, .int q1), (2, .int q2), (4, .int v4), (5, .int q5), (6, .int v6), (7, .int x33), (8, .int (x35 + x43))]) (am_dec tmX12_steady_2 2 rfl) (by decide) rfl ?_
      refine am_aload_n (am_dec tmX12_steady_2 3 rfl) rfl rfl ?_
      refine am_iload (am_dec tmX12_steady_2 4 rfl) rfl ?_
      refine am_iload (am_dec tmX12_steady_2 5 rfl) rfl ?_
      refine am_iload (am_dec tmX12_steady_2 6 rfl) rfl ?_
      obtain ⟨x46, g45, hf⟩ := am_bd hf
      refine am_callV1 (As := [.int v4, .int x33, .int (x35 + x43)]) (st := []) hE (am_dec tmX12_steady_2 7 rfl) ok_X12_rises rfl lm_X12_392 in_X12_rises se_X12_rises sh_117 cf12 (c_X12_rises hE g45) rfl (Nat.lt_of_lt_of_le (by decide) hdp) (Nat.le_of_ble_eq_true rfl) (Nat.zero_le _) (Nat.zero_le _) rfl ?_
      obtain ⟨w57, g58, hf⟩ := am_bd hf
      have key48 : am_S E mX12_steady d mc ms o G2 D2 0 0 242 [(0, .ref 117), (1, .int q1), (2, .int q2), (4, .int w57.1), (5, .int q5), (6, .int v6)] [] am_G0 w57.2 := by
        refine am_iinc (v := (1 : Int32)) (lv' := [(0, .ref 117), (1, .int q1), (2, .int q2), (4, .int w57.1), (5, .int q5), (6, .int (v6 + (1 : Int32)))]) (am_dec tmX12_steady_2 25 rfl) rfl (by decide) (by decide) rfl ?_
        refine am_goto (tgt := 144) (am_dec tmX12_steady_2 26 rfl) (by decide) ?_
        exact am_pick [0, 1, 2, 3, 4, 5] rfl (l_X12_steady_L144 hE hdp n w57.1 (v6 + (1 : Int32)) w57.2 ex0 hf hk0)
      replace hf := g58
      refine am_if_ne (tgt := 217) (am_dec tmX12_steady_2 8 rfl) (by decide) (fun c47 => ?_) (fun c47 => ?_)
      · rw [if_neg c47] at hf
        refine am_aload_n (am_dec tmX12_steady_2 10 rfl) rfl rfl ?_
        refine am_getR (j := 11) hE (am_dec tmX12_steady_2 11 rfl) sh_117 cf12 (by decide) rfl lf_X12_22 rf_117_11 ?_
        refine am_iload (am_dec tmX12_steady_2 12 rfl) rfl ?_
        obtain ⟨j49, g50, hf⟩ := am_bd hf
        have hj_j49 := (am_gA_lt g50).1
        refine am_aald2 (t := 6) hE (am_dec tmX12_steady_2 13 rfl) sh_120 (by decide) rfl rfl g50 (rr_120 hj_j49) ?_
        refine am_iconst (v := (0 : Int32)) (am_dec tmX12_steady_2 14 rfl) (by decide) ?_
        refine am_iload (am_dec tmX12_steady_2 15 rfl) rfl ?_
        obtain ⟨D51, g52, hf⟩ := am_bd hf
        refine am_iast2 hE (am_dec tmX12_steady_2 16 rfl) (sa_120_0 hj_j49) g52 ?_
        refine am_aload_n (am_dec tmX12_steady_2 17 rfl) rfl rfl ?_
        refine am_getR (j := 11) hE (am_dec tmX12_steady_2 18 rfl) sh_117 cf12 (by decide) rfl lf_X12_22 rf_117_11 ?_
        refine am_iload (am_dec tmX12_steady_2 19 rfl) rfl ?_
        obtain ⟨j53, g54, hf⟩ := am_bd hf
        have hj_j53 := (am_gA_lt g54).1
        refine am_aald2 (t := 6) hE (am_dec tmX12_steady_2 20 rfl) sh_120 (by decide) rfl rfl g54 (rr_120 hj_j53) ?_
        refine am_iconst (v := (1 : Int32)) (am_dec tmX12_steady_2 21 rfl) (by decide) ?_
        refine am_iload (am_dec tmX12_steady_2 22 rfl) rfl ?_
        obtain ⟨D55, g56, hf⟩ := am_bd hf
        refine am_iast2 hE (am_dec tmX12_steady_2 23 rfl) (sa_120_0 hj_j53) g56 ?_
        refine am_iinc (v := (1 : Int32)) (lv' := [(0, .ref 117), (1, .int q1), (2, .int q2), (4, .int (v4 + (1 : Int32))), (5, .int q5), (6, .int v6), (7, .int x33), (8, .int (x35 + x43))]) (am_dec tmX12_steady_2 24 rfl) rfl (by decide) (by decide) rfl ?_
        have hf := Option.some.inj hf
        subst hf
        exact am_pick [0, 1, 2, 3, 4, 5] rfl key48
      · rw [if_pos c47] at hf
        refine am_goto (tgt := 242) (am_dec tmX12_steady_2 9 rfl) (by decide) ?_
        have hf := Option.some.inj hf
        subst hf
        exact am_pick [0, 1, 2, 3, 4, 5] rfl key48
set_option maxRecDepth 100000 in
set_option maxHeartbeats 4000000 in
theorem c_X12_steady {E : am_E} (hE : am_EH E) {p1 : Int32} {D : am_D} {r : (Int32 × am_D)}  (hf : f_X12_steady p1 D = some r) : am_C E mX12_steady 3 0 0 [.ref 117, .int p1] am_G0 D (.inl (some (.int r.1))) am_G0 r.2 := by
  refine am_C_of (by decide +kernel) (Nat.le_of_ble_eq_true rfl) ?_
  change am_S E mX12_steady 3 0 0 (.inl (some (.int r.1))) am_G0 r.2 0 0 0 [(0, .ref 117), (1, .int p1)] [] am_G0 D
  unfold f_X12_steady at hf
  refine am_aload_n (am_dec tmX12_steady_0 0 rfl) rfl rfl ?_
  refine am_iconst (v := (0 : Int32)) (am_dec tmX12_steady_0 1 rfl) (by decide) ?_
  obtain ⟨D1, g2, hf⟩ := am_bd hf
  refine am_putI2 (j := 0) hE (am_dec tmX12_steady_0 2 rfl) sh_117 cf12 (by decide) rfl lf_X12_110 rfl rfl rfl g2 ?_
  refine am_aload_n (am_dec tmX12_steady_0 3 rfl) rfl rfl ?_
  refine am_aload_n (am_dec tmX12_steady_0 4 rfl) rfl rfl ?_
  refine am_iload_n (am_dec tmX12_steady_0 5 rfl) rfl rfl ?_
  obtain ⟨x4, g3, hf⟩ := am_bd hf
  refine am_callV1 (As := [.int p1]) (st := [.ref 117]) hE (am_dec tmX12_steady_0 6 rfl) ok_X12_isSound rfl lm_X12_217 in_X12_isSound se_X12_isSound sh_117 cf12 (c_X12_isSound hE g3) rfl (by decide) (Nat.le_of_ble_eq_true rfl) (Nat.zero_le _) (Nat.zero_le _) rfl ?_
  obtain ⟨w7, g65, hf⟩ := am_bd hf
  have key6 : am_S E mX12_steady 3 0 0 (.inl (some (.int r.1))) am_G0 r.2 0 0 19 [(0, .ref 117), (1, .int p1)] [.int w7, .ref 117] am_G0 D1 := by
    refine am_iconst (v := (1 : Int32)) (am_dec tmX12_steady_0 11 rfl) (by decide) ?_
    obtain ⟨x9, g8, hf⟩ := am_bd hf
    refine am_callV1 (As := [.int w7, .int (1 : Int32)]) (st := []) hE (am_dec tmX12_steady_0 12 rfl) ok_X12_bad rfl lm_X12_191 in_X12_bad se_X12_bad sh_117 cf12 (c_X12_bad hE g8) rfl (by decide) (Nat.le_of_ble_eq_true rfl) (Nat.zero_le _) (Nat.zero_le _) rfl ?_
    refine am_if_eq (tgt := 28) (am_dec tmX12_steady_0 13 rfl) (by decide) (fun c10 => ?_) (fun c10 => ?_)
    · rw [if_pos c10] at hf
      refine am_aload_n (am_dec tmX12_steady_0 16 rfl) rfl rfl ?_
      refine am_getI (j := 13) hE (am_dec tmX12_steady_0 17 rfl) sh_117 cf12 (by decide) rfl lf_X12_208 ?_
      refine am_iconst (v := (5 : Int32)) (am_dec tmX12_steady_0 18 rfl) (by decide) ?_
      refine am_icmp_ne (tgt := 38) (am_dec tmX12_steady_0 19 rfl) (by decide) (fun c11 => ?_) (fun c11 => ?_)
      · rw [if_neg c11] at hf
        refine am_aload_n (am_dec tmX12_steady_0 22 rfl) rfl rfl ?_
        refine am_iload_n (am_dec tmX12_steady_0 23 rfl) rfl rfl ?_
        obtain ⟨x13, g12, hf⟩ := am_bd hf
        refine am_callV1 (As := [.int p1]) (st := []) hE (am_dec tmX12_steady_0 24 rfl) ok_X12_findCrossings rfl lm_X12_365 in_X12_findCrossings se_X12_findCrossings sh_117 cf12 (c_X12_findCrossings hE g12) rfl (by decide) (Nat.le_of_ble_eq_true rfl) (Nat.zero_le _) (Nat.zero_le _) rfl ?_
        refine am_istore_n (lv' := [(0, .ref 117), (1, .int p1), (2, .int x13.1)]) (am_dec tmX12_steady_0 25 rfl) rfl (by decide) rfl ?_
        refine am_iconst (v := (1 : Int32)) (am_dec tmX12_steady_0 26 rfl) (by decide) ?_
        refine am_iload_n (am_dec tmX12_steady_0 27 rfl) rfl rfl ?_
        refine am_iconst (v := (1 : Int32)) (am_dec tmX12_steady_0 28 rfl) (by decide) ?_
        refine am_isub (am_dec tmX12_steady_0 29 rfl) ?_
        refine am_bipush (v := (11 : Int32)) (am_dec tmX12_steady_0 30 rfl) (by decide) ?_
        refine am_idiv (am_dec tmX12_steady_0 31 rfl) (by decide) ?_
        refine am_iadd (am_dec tmX12_steady_0 32 rfl) ?_
        refine am_istore_n (lv' := [(0, .ref 117), (1, .int p1), (2, .int x13.1), (3, .int ((1 : Int32) + ((x13.1 - (1 : Int32)) / (11 : Int32))))]) (am_dec tmX12_steady_0 33 rfl) rfl (by decide) rfl ?_
        refine am_iconst (v := (0 : Int32)) (am_dec tmX12_steady_0 34 rfl) (by decide) ?_
        refine am_istore (lv' := [(0, .ref 117), (1, .int p1), (2, .int x13.1), (3, .int ((1 : Int32) + ((x13.1 - (1 : Int32)) / (11 : Int32)))), (4, .int (0 : Int32))]) (am_dec tmX12_steady_0 35 rfl) (by decide) rfl ?_
        refine am_iconst (v := (0 : Int32)) (am_dec tmX12_steady_0 36 rfl) (by decide) ?_
        refine am_istore (lv' := [(0, .ref 117), (1, .int p1), (2, .int x13.1), (3, .int ((1 : Int32) + ((x13.1 - (1 : Int32)) / (11 : Int32)))), (4, .int (0 : Int32)), (5, .int (0 : Int32))]) (am_dec tmX12_steady_0 37 rfl) (by decide) rfl ?_
        refine am_iload_n (am_dec tmX12_steady_0 38 rfl) rfl rfl ?_
        refine am_iconst (v := (2 : Int32)) (am_dec tmX12_steady_0 39 rfl) (by decide) ?_
        refine am_icmp_ge (tgt := 67) (am_dec tmX12_steady_0 40 rfl) (by decide) (fun c14 => ?_) (fun c14 => ?_)
        · rw [if_pos c14] at hf
          refine am_iconst (v := (0 : Int32)) (am_dec tmX12_steady_0 43 rfl) (by decide) ?_
          refine am_istore (lv' := [(0, .ref 117), (1, .int p1), (2, .int x13.1), (3, .int ((1 : Int32) + ((x13.1 - (1 : Int32)) / (11 : Int32)))), (4, .int (0 : Int32)), (5, .int (0 : Int32)), (6, .int (0 : Int32))]) (am_dec tmX12_steady_0 44 rfl) (by decide) rfl ?_
          obtain ⟨e18, g64, hf⟩ := am_bd hf
          refine am_pick [0, 1, 2, 3, 4, 5, 6] rfl (l_X12_steady_L70 hE (Nat.le_refl _) am_fu _ _ _ _ g64 (fun ex he => ?_))
          subst he
          refine am_aload_n (am_dec tmX12_steady_0 59 rfl) rfl rfl ?_
          refine am_getR (j := 52) hE (am_dec tmX12_steady_1 0 rfl) sh_117 cf12 (by decide) rfl lf_X12_97 rf_117_52 ?_
          refine am_iload (am_dec tmX12_steady_1 1 rfl) rfl ?_
          refine am_iconst (v := (1 : Int32)) (am_dec tmX12_steady_1 2 rfl) (by decide) ?_
          refine am_isub (am_dec tmX12_steady_1 3 rfl) ?_
          obtain ⟨x19, g20, hf⟩ := am_bd hf
          refine am_iald2 hE (am_dec tmX12_steady_1 4 rfl) sh_2630 g20 ?_
          refine am_iload_n (am_dec tmX12_steady_1 5 rfl) rfl rfl ?_
          refine am_iconst (v := (1 : Int32)) (am_dec tmX12_steady_1 6 rfl) (by decide) ?_
          refine am_isub (am_dec tmX12_steady_1 7 rfl) ?_
          obtain ⟨w29, g63, hf⟩ := am_bd hf
          have key22 : am_S E mX12_steady 3 0 0 (.inl (some (.int r.1))) am_G0 r.2 0 0 141 [(0, .ref 117), (1, .int p1), (2, .int x13.1), (4, .int (0 : Int32)), (5, .int w29.1)] [] am_G0 w29.2 := by
            refine am_iconst (v := (0 : Int32)) (am_dec tmX12_steady_1 24 rfl) (by decide) ?_
            refine am_istore (lv' := [(0, .ref 117), (1, .int p1), (2, .int x13.1), (4, .int (0 : Int32)), (5, .int w29.1), (6, .int (0 : Int32))]) (am_dec tmX12_steady_1 25 rfl) (by decide) rfl ?_
            obtain ⟨e59, g62, hf⟩ := am_bd hf
            refine am_pick [0, 1, 2, 3, 4, 5] rfl (l_X12_steady_L144 hE (Nat.le_refl _) am_fu _ _ _ _ g62 (fun ex he => ?_))
            subst he
            refine am_aload_n (am_dec tmX12_steady_2 27 rfl) rfl rfl ?_
            refine am_iload_n (am_dec tmX12_steady_2 28 rfl) rfl rfl ?_
            refine am_iload (am_dec tmX12_steady_2 29 rfl) rfl ?_
            obtain ⟨x61, g60, hf⟩ := am_bd hf
            refine am_callV1 (As := [.int p1, .int e59.1]) (st := []) hE (am_dec tmX12_steady_2 30 rfl) ok_X12_endsMap rfl lm_X12_395 in_X12_endsMap se_X12_endsMap sh_117 cf12 (c_X12_endsMap hE g60) rfl (by decide) (Nat.le_of_ble_eq_true rfl) (Nat.zero_le _) (Nat.zero_le _) rfl ?_
            have hf := Option.some.inj hf
            subst hf
            exact am_iret (am_dec tmX12_steady_2 31 rfl) rfl (Nat.zero_le _) (Nat.zero_le _)
          replace hf := g63
          refine am_icmp_eq (tgt := 141) (am_dec tmX12_steady_1 8 rfl) (by decide) (fun c21 => ?_) (fun c21 => ?_)
          · rw [if_pos c21] at hf
            have hf := Option.some.inj hf
            subst hf
            exact am_pick [0, 1, 2, 3, 4] rfl key22
          · rw [if_neg c21] at hf
            refine am_iload (am_dec tmX12_steady_1 9 rfl) rfl ?_
            refine am_bipush (v := (11 : Int32)) (am_dec tmX12_steady_1 10 rfl) (by decide) ?_
            obtain ⟨w25, g28, hf⟩ := am_bd hf
            have key24 : am_S E mX12_steady 3 0 0 (.inl (some (.int r.1))) am_G0 r.2 0 0 126 [(0, .ref 117), (1, .int p1), (2, .int x13.1), (4, .int (0 : Int32))] [.int w25] am_G0 e18.2 := by
              refine am_istore (lv' := [(0, .ref 117), (1, .int p1), (2, .int x13.1), (4, .int (0 : Int32)), (5, .int w25)]) (am_dec tmX12_steady_1 15 rfl) (by decide) rfl ?_
              refine am_aload_n (am_dec tmX12_steady_1 16 rfl) rfl rfl ?_
              refine am_getR (j := 52) hE (am_dec tmX12_steady_1 17 rfl) sh_117 cf12 (by decide) rfl lf_X12_97 rf_117_52 ?_
              refine am_iload (am_dec tmX12_steady_1 18 rfl) rfl ?_
              refine am_iload_n (am_dec tmX12_steady_1 19 rfl) rfl rfl ?_
              refine am_iconst (v := (1 : Int32)) (am_dec tmX12_steady_1 20 rfl) (by decide) ?_
              refine am_isub (am_dec tmX12_steady_1 21 rfl) ?_
              obtain ⟨D26, g27, hf⟩ := am_bd hf
              refine am_iast2 hE (am_dec tmX12_steady_1 22 rfl) sh_2630 g27 ?_
              refine am_iinc (v := (1 : Int32)) (lv' := [(0, .ref 117), (1, .int p1), (2, .int x13.1), (4, .int (0 : Int32)), (5, .int (w25 + (1 : Int32)))]) (am_dec tmX12_steady_1 23 rfl) rfl (by decide) (by decide) rfl ?_
              have hf := Option.some.inj hf
              subst hf
              exact am_pick [0, 1, 2, 3, 4] rfl key22
            replace hf := g28
            refine am_icmp_ne (tgt := 124) (am_dec tmX12_steady_1 11 rfl) (by decide) (fun c23 => ?_) (fun c23 => ?_)
            · rw [if_neg c23] at hf
              refine am_iload (am_dec tmX12_steady_1 14 rfl) rfl ?_
              have hf := Option.some.inj hf
              subst hf
              exact am_pick [0, 1, 2, 3] rfl key24
            · rw [if_pos c23] at hf
              refine am_bipush (v := (10 : Int32)) (am_dec tmX12_steady_1 12 rfl) (by decide) ?_
              refine am_goto (tgt := 126) (am_dec tmX12_steady_1 13 rfl) (by decide) ?_
              have hf := Option.some.inj hf
              subst hf
              exact am_pick [0, 1, 2, 3] rfl key24
        · rw [if_neg c14] at hf
          refine am_bipush (v := (-2 : Int32)) (am_dec tmX12_steady_0 41 rfl) (by decide) ?_
          have hf := Option.some.inj hf
          subst hf
          exact am_iret (am_dec tmX12_steady_0 42 rfl) rfl (Nat.zero_le _) (Nat.zero_le _)
      · rw [if_pos c11] at hf
        refine am_iconst (v := (-1 : Int32)) (am_dec tmX12_steady_0 20 rfl) (by decide) ?_
        have hf := Option.some.inj hf
        subst hf
        exact am_iret (am_dec tmX12_steady_0 21 rfl) rfl (Nat.zero_le _) (Nat.zero_le _)
    · rw [if_neg c10] at hf
      refine am_iconst (v := (0 : Int32)) (am_dec tmX12_steady_0 14 rfl) (by decide) ?_
      have hf := Option.some.inj hf
      subst hf
      exact am_iret (am_dec tmX12_steady_0 15 rfl) rfl (Nat.zero_le _) (Nat.zero_le _)
  replace hf := g65
  refine am_if_ne (tgt := 18) (am_dec tmX12_steady_0 7 rfl) (by decide) (fun c5 => ?_) (fun c5 => ?_)
  · rw [if_neg c5] at hf
    refine am_iconst (v := (0 : Int32)) (am_dec tmX12_steady_0 10 rfl) (by decide) ?_
    have hf := Option.some.inj hf
    subst hf
    exact am_pick [0, 1] rfl key6
  · rw [if_pos c5] at hf
    refine am_iconst (v := (1 : Int32)) (am_dec tmX12_steady_0 8 rfl) (by decide) ?_
    refine am_goto (tgt := 19) (am_dec tmX12_steady_0 9 rfl) (by decide) ?_
    have hf := Option.some.inj hf
    subst hf
    exact am_pick [0, 1] rfl key6
