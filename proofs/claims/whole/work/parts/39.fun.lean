def f_X12_fault (D : am_D) : Option ((Int32 × am_D)) :=
    (some (am_wI D 117 0 (0 : Int32))).bind fun D1 =>
    some ((D1.1 117 3), D1)
set_option maxRecDepth 100000 in
set_option maxHeartbeats 4000000 in
theorem c_X12_fault {E : am_E} (hE : am_EH E) {D : am_D} {r : (Int32 × am_D)}  (hf : f_X12_fault D = some r) : am_C E mX12_fault 1 0 0 [.ref 117] am_G0 D (.inl (some (.int r.1))) am_G0 r.2 := by
  refine am_C_of (by decide +kernel) (Nat.le_of_ble_eq_true rfl) ?_
  change am_S E mX12_fault 1 0 0 (.inl (some (.int r.1))) am_G0 r.2 0 0 0 [(0, .ref 117)] [] am_G0 D
  unfold f_X12_fault at hf
  refine am_aload_n (am_dec tmX12_fault 0 rfl) rfl rfl ?_
  refine am_iconst (v := (0 : Int32)) (am_dec tmX12_fault 1 rfl) (by decide) ?_
  obtain ⟨D1, g2, hf⟩ := am_bd hf
  refine am_putI2 (j := 0) hE (am_dec tmX12_fault 2 rfl) sh_117 cf12 (by decide) rfl lf_X12_110 rfl rfl rfl g2 ?_
  refine am_aload_n (am_dec tmX12_fault 3 rfl) rfl rfl ?_
  refine am_getI (j := 3) hE (am_dec tmX12_fault 4 rfl) sh_117 cf12 (by decide) rfl lf_X12_9 ?_
  have hf := Option.some.inj hf
  subst hf
  exact am_iret (am_dec tmX12_fault 5 rfl) rfl (Nat.zero_le _) (Nat.zero_le _)
def f_X12_isSound (p1 : Int32) (D : am_D) : Option (Int32) :=
    (f_X12_in p1 (0 : Int32) ((D.1 117 12) - (1 : Int32))).bind fun x2 =>
    some x2
set_option maxRecDepth 100000 in
set_option maxHeartbeats 4000000 in
theorem c_X12_isSound {E : am_E} (hE : am_EH E) {p1 : Int32} {D : am_D} {r : Int32}  (hf : f_X12_isSound p1 D = some r) : am_C E mX12_isSound 2 0 0 [.ref 117, .int p1] am_G0 D (.inl (some (.int r))) am_G0 D := by
  refine am_C_of (by decide +kernel) (Nat.le_of_ble_eq_true rfl) ?_
  change am_S E mX12_isSound 2 0 0 (.inl (some (.int r))) am_G0 D 0 0 0 [(0, .ref 117), (1, .int p1)] [] am_G0 D
  unfold f_X12_isSound at hf
  refine am_iload_n (am_dec tmX12_isSound 0 rfl) rfl rfl ?_
  refine am_iconst (v := (0 : Int32)) (am_dec tmX12_isSound 1 rfl) (by decide) ?_
  refine am_aload_n (am_dec tmX12_isSound 2 rfl) rfl rfl ?_
  refine am_getI (j := 12) hE (am_dec tmX12_isSound 3 rfl) sh_117 cf12 (by decide) rfl lf_X12_195 ?_
  refine am_iconst (v := (1 : Int32)) (am_dec tmX12_isSound 4 rfl) (by decide) ?_
  refine am_isub (am_dec tmX12_isSound 5 rfl) ?_
  obtain ⟨x2, g1, hf⟩ := am_bd hf
  refine am_callS1 (As := [.int p1, .int (0 : Int32), .int ((D.1 117 12) - (1 : Int32))]) (st := []) (am_dec tmX12_isSound 6 rfl) ok_X12_in rfl lm_X12_144 st_X12_in (c_X12_in hE g1) rfl (by decide) (Nat.le_of_ble_eq_true rfl) (Nat.zero_le _) (Nat.zero_le _) rfl ?_
  have hf := Option.some.inj hf
  subst hf
  exact am_zret (am_dec tmX12_isSound 7 rfl) rfl (z_X12_in g1) (Nat.zero_le _) (Nat.zero_le _)
theorem z_X12_isSound {p1 : Int32} {D : am_D} {r : Int32} (hf : f_X12_isSound p1 D = some r) : narrow .boolean (.int r) = .int r := by
  unfold f_X12_isSound at hf
  obtain ⟨x2, g1, hf⟩ := am_bd hf
  have hf := Option.some.inj hf
  subst hf
  exact z_X12_in g1
def f_X12_isMap (p1 : Int32) (D : am_D) : Option (Int32) :=
    (f_X12_in p1 (0 : Int32) ((D.1 117 13) - (1 : Int32))).bind fun x2 =>
    some x2
set_option maxRecDepth 100000 in
set_option maxHeartbeats 4000000 in
theorem c_X12_isMap {E : am_E} (hE : am_EH E) {p1 : Int32} {D : am_D} {r : Int32}  (hf : f_X12_isMap p1 D = some r) : am_C E mX12_isMap 2 0 0 [.ref 117, .int p1] am_G0 D (.inl (some (.int r))) am_G0 D := by
  refine am_C_of (by decide +kernel) (Nat.le_of_ble_eq_true rfl) ?_
  change am_S E mX12_isMap 2 0 0 (.inl (some (.int r))) am_G0 D 0 0 0 [(0, .ref 117), (1, .int p1)] [] am_G0 D
  unfold f_X12_isMap at hf
  refine am_iload_n (am_dec tmX12_isMap 0 rfl) rfl rfl ?_
  refine am_iconst (v := (0 : Int32)) (am_dec tmX12_isMap 1 rfl) (by decide) ?_
  refine am_aload_n (am_dec tmX12_isMap 2 rfl) rfl rfl ?_
  refine am_getI (j := 13) hE (am_dec tmX12_isMap 3 rfl) sh_117 cf12 (by decide) rfl lf_X12_208 ?_
  refine am_iconst (v := (1 : Int32)) (am_dec tmX12_isMap 4 rfl) (by decide) ?_
  refine am_isub (am_dec tmX12_isMap 5 rfl) ?_
  obtain ⟨x2, g1, hf⟩ := am_bd hf
  refine am_callS1 (As := [.int p1, .int (0 : Int32), .int ((D.1 117 13) - (1 : Int32))]) (st := []) (am_dec tmX12_isMap 6 rfl) ok_X12_in rfl lm_X12_144 st_X12_in (c_X12_in hE g1) rfl (by decide) (Nat.le_of_ble_eq_true rfl) (Nat.zero_le _) (Nat.zero_le _) rfl ?_
  have hf := Option.some.inj hf
  subst hf
  exact am_zret (am_dec tmX12_isMap 7 rfl) rfl (z_X12_in g1) (Nat.zero_le _) (Nat.zero_le _)
theorem z_X12_isMap {p1 : Int32} {D : am_D} {r : Int32} (hf : f_X12_isMap p1 D = some r) : narrow .boolean (.int r) = .int r := by
  unfold f_X12_isMap at hf
  obtain ⟨x2, g1, hf⟩ := am_bd hf
  have hf := Option.some.inj hf
  subst hf
  exact z_X12_in g1
def f_X12_size (p1 : Int32) (D : am_D) : Option ((Int32 × am_D)) :=
    (some (am_wI D 117 0 (0 : Int32))).bind fun D1 =>
    (f_X12_isSound p1 D1).bind fun x4 =>
    (if x4 = 0 then
    some ((1 : Int32))
    else
    some ((0 : Int32))).bind fun w7 =>
    (f_X12_bad w7 (1 : Int32) D1).bind fun x9 =>
    if x9.1 = 0 then
    (am_gI x9.2 139 5 p1).bind fun x11 =>
    some (x11, x9.2)
    else
    some ((0 : Int32), x9.2)
set_option maxRecDepth 100000 in
set_option maxHeartbeats 4000000 in
theorem c_X12_size {E : am_E} (hE : am_EH E) {p1 : Int32} {D : am_D} {r : (Int32 × am_D)}  (hf : f_X12_size p1 D = some r) : am_C E mX12_size 3 0 0 [.ref 117, .int p1] am_G0 D (.inl (some (.int r.1))) am_G0 r.2 := by
  refine am_C_of (by decide +kernel) (Nat.le_of_ble_eq_true rfl) ?_
  change am_S E mX12_size 3 0 0 (.inl (some (.int r.1))) am_G0 r.2 0 0 0 [(0, .ref 117), (1, .int p1)] [] am_G0 D
  unfold f_X12_size at hf
  refine am_aload_n (am_dec tmX12_size 0 rfl) rfl rfl ?_
  refine am_iconst (v := (0 : Int32)) (am_dec tmX12_size 1 rfl) (by decide) ?_
  obtain ⟨D1, g2, hf⟩ := am_bd hf
  refine am_putI2 (j := 0) hE (am_dec tmX12_size 2 rfl) sh_117 cf12 (by decide) rfl lf_X12_110 rfl rfl rfl g2 ?_
  refine am_aload_n (am_dec tmX12_size 3 rfl) rfl rfl ?_
  refine am_aload_n (am_dec tmX12_size 4 rfl) rfl rfl ?_
  refine am_iload_n (am_dec tmX12_size 5 rfl) rfl rfl ?_
  obtain ⟨x4, g3, hf⟩ := am_bd hf
  refine am_callV1 (As := [.int p1]) (st := [.ref 117]) hE (am_dec tmX12_size 6 rfl) ok_X12_isSound rfl lm_X12_217 in_X12_isSound se_X12_isSound sh_117 cf12 (c_X12_isSound hE g3) rfl (by decide) (Nat.le_of_ble_eq_true rfl) (Nat.zero_le _) (Nat.zero_le _) rfl ?_
  obtain ⟨w7, g13, hf⟩ := am_bd hf
  have key6 : am_S E mX12_size 3 0 0 (.inl (some (.int r.1))) am_G0 r.2 0 0 19 [(0, .ref 117), (1, .int p1)] [.int w7, .ref 117] am_G0 D1 := by
    refine am_iconst (v := (1 : Int32)) (am_dec tmX12_size 11 rfl) (by decide) ?_
    obtain ⟨x9, g8, hf⟩ := am_bd hf
    refine am_callV1 (As := [.int w7, .int (1 : Int32)]) (st := []) hE (am_dec tmX12_size 12 rfl) ok_X12_bad rfl lm_X12_191 in_X12_bad se_X12_bad sh_117 cf12 (c_X12_bad hE g8) rfl (by decide) (Nat.le_of_ble_eq_true rfl) (Nat.zero_le _) (Nat.zero_le _) rfl ?_
    refine am_if_eq (tgt := 28) (am_dec tmX12_size 13 rfl) (by decide) (fun c10 => ?_) (fun c10 => ?_)
    · rw [if_pos c10] at hf
      refine am_aload_n (am_dec tmX12_size 16 rfl) rfl rfl ?_
      refine am_getR (j := 25) hE (am_dec tmX12_size 17 rfl) sh_117 cf12 (by decide) rfl lf_X12_46 rf_117_25 ?_
      refine am_iload_n (am_dec tmX12_size 18 rfl) rfl rfl ?_
      obtain ⟨x11, g12, hf⟩ := am_bd hf
      refine am_iald2 hE (am_dec tmX12_size 19 rfl) sh_139 g12 ?_
      have hf := Option.some.inj hf
      subst hf
      exact am_iret (am_dec tmX12_size 20 rfl) rfl (Nat.zero_le _) (Nat.zero_le _)
    · rw [if_neg c10] at hf
      refine am_iconst (v := (0 : Int32)) (am_dec tmX12_size 14 rfl) (by decide) ?_
      have hf := Option.some.inj hf
      subst hf
      exact am_iret (am_dec tmX12_size 15 rfl) rfl (Nat.zero_le _) (Nat.zero_le _)
  replace hf := g13
  refine am_if_ne (tgt := 18) (am_dec tmX12_size 7 rfl) (by decide) (fun c5 => ?_) (fun c5 => ?_)
  · rw [if_neg c5] at hf
    refine am_iconst (v := (0 : Int32)) (am_dec tmX12_size 10 rfl) (by decide) ?_
    have hf := Option.some.inj hf
    subst hf
    exact am_pick [0, 1] rfl key6
  · rw [if_pos c5] at hf
    refine am_iconst (v := (1 : Int32)) (am_dec tmX12_size 8 rfl) (by decide) ?_
    refine am_goto (tgt := 19) (am_dec tmX12_size 9 rfl) (by decide) ?_
    have hf := Option.some.inj hf
    subst hf
    exact am_pick [0, 1] rfl key6
def f_X12_sample (p1 : Int32) (p2 : Int32) (D : am_D) : Option ((Int32 × am_D)) :=
    (some (am_wI D 117 0 (0 : Int32))).bind fun D1 =>
    (f_X12_isSound p1 D1).bind fun x4 =>
    (if x4 = 0 then
    some ((1 : Int32))
    else
    some ((0 : Int32))).bind fun w7 =>
    (f_X12_bad w7 (1 : Int32) D1).bind fun x9 =>
    if x9.1 = 0 then
    (am_gI x9.2 139 5 p1).bind fun x11 =>
    (f_X12_in p2 (0 : Int32) (x11 - (1 : Int32))).bind fun x14 =>
    if x14 = 0 then
    some ((-5000 : Int32), x9.2)
    else
    (am_gA 5 p1).bind fun j16 =>
    (am_gI x9.2 (134 + j16) 600 p2).bind fun x18 =>
    some (x18, x9.2)
    else
    some ((0 : Int32), x9.2)
set_option maxRecDepth 100000 in
set_option maxHeartbeats 4000000 in
theorem c_X12_sample {E : am_E} (hE : am_EH E) {p1 : Int32} {p2 : Int32} {D : am_D} {r : (Int32 × am_D)}  (hf : f_X12_sample p1 p2 D = some r) : am_C E mX12_sample 3 0 0 [.ref 117, .int p1, .int p2] am_G0 D (.inl (some (.int r.1))) am_G0 r.2 := by
  refine am_C_of (by decide +kernel) (Nat.le_of_ble_eq_true rfl) ?_
  change am_S E mX12_sample 3 0 0 (.inl (some (.int r.1))) am_G0 r.2 0 0 0 [(0, .ref 117), (1, .int p1), (2, .int p2)] [] am_G0 D
  unfold f_X12_sample at hf
  refine am_aload_n (am_dec tmX12_sample 0 rfl) rfl rfl ?_
  refine am_iconst (v := (0 : Int32)) (am_dec tmX12_sample 1 rfl) (by decide) ?_
  obtain ⟨D1, g2, hf⟩ := am_bd hf
  refine am_putI2 (j := 0) hE (am_dec tmX12_sample 2 rfl) sh_117 cf12 (by decide) rfl lf_X12_110 rfl rfl rfl g2 ?_
  refine am_aload_n (am_dec tmX12_sample 3 rfl) rfl rfl ?_
  refine am_aload_n (am_dec tmX12_sample 4 rfl) rfl rfl ?_
  refine am_iload_n (am_dec tmX12_sample 5 rfl) rfl rfl ?_
  obtain ⟨x4, g3, hf⟩ := am_bd hf
  refine am_callV1 (As := [.int p1]) (st := [.ref 117]) hE (am_dec tmX12_sample 6 rfl) ok_X12_isSound rfl lm_X12_217 in_X12_isSound se_X12_isSound sh_117 cf12 (c_X12_isSound hE g3) rfl (by decide) (Nat.le_of_ble_eq_true rfl) (Nat.zero_le _) (Nat.zero_le _) rfl ?_
  obtain ⟨w7, g20, hf⟩ := am_bd hf
  have key6 : am_S E mX12_sample 3 0 0 (.inl (some (.int r.1))) am_G0 r.2 0 0 19 [(0, .ref 117), (1, .int p1), (2, .int p2)] [.int w7, .ref 117] am_G0 D1 := by
    refine am_iconst (v := (1 : Int32)) (am_dec tmX12_sample 11 rfl) (by decide) ?_
    obtain ⟨x9, g8, hf⟩ := am_bd hf
    refine am_callV1 (As := [.int w7, .int (1 : Int32)]) (st := []) hE (am_dec tmX12_sample 12 rfl) ok_X12_bad rfl lm_X12_191 in_X12_bad se_X12_bad sh_117 cf12 (c_X12_bad hE g8) rfl (by decide) (Nat.le_of_ble_eq_true rfl) (Nat.zero_le _) (Nat.zero_le _) rfl ?_
    refine am_if_eq (tgt := 28) (am_dec tmX12_sample 13 rfl) (by decide) (fun c10 => ?_) (fun c10 => ?_)
    · rw [if_pos c10] at hf
      refine am_iload_n (am_dec tmX12_sample 16 rfl) rfl rfl ?_
      refine am_iconst (v := (0 : Int32)) (am_dec tmX12_sample 17 rfl) (by decide) ?_
      refine am_aload_n (am_dec tmX12_sample 18 rfl) rfl rfl ?_
      refine am_getR (j := 25) hE (am_dec tmX12_sample 19 rfl) sh_117 cf12 (by decide) rfl lf_X12_46 rf_117_25 ?_
      refine am_iload_n (am_dec tmX12_sample 20 rfl) rfl rfl ?_
      obtain ⟨x11, g12, hf⟩ := am_bd hf
      refine am_iald2 hE (am_dec tmX12_sample 21 rfl) sh_139 g12 ?_
      refine am_iconst (v := (1 : Int32)) (am_dec tmX12_sample 22 rfl) (by decide) ?_
      refine am_isub (am_dec tmX12_sample 23 rfl) ?_
      obtain ⟨x14, g13, hf⟩ := am_bd hf
      refine am_callS1 (As := [.int p2, .int (0 : Int32), .int (x11 - (1 : Int32))]) (st := []) (am_dec tmX12_sample 24 rfl) ok_X12_in rfl lm_X12_144 st_X12_in (c_X12_in hE g13) rfl (by decide) (Nat.le_of_ble_eq_true rfl) (Nat.zero_le _) (Nat.zero_le _) rfl ?_
      refine am_if_eq (tgt := 55) (am_dec tmX12_sample 25 rfl) (by decide) (fun c15 => ?_) (fun c15 => ?_)
      · rw [if_pos c15] at hf
        refine am_sipush (v := (-5000 : Int32)) (am_dec tmX12_sample 33 rfl) (by decide) ?_
        have hf := Option.some.inj hf
        subst hf
        exact am_iret (am_dec tmX12_sample 34 rfl) rfl (Nat.zero_le _) (Nat.zero_le _)
      · rw [if_neg c15] at hf
        refine am_aload_n (am_dec tmX12_sample 26 rfl) rfl rfl ?_
        refine am_getR (j := 24) hE (am_dec tmX12_sample 27 rfl) sh_117 cf12 (by decide) rfl lf_X12_43 rf_117_24 ?_
        refine am_iload_n (am_dec tmX12_sample 28 rfl) rfl rfl ?_
        obtain ⟨j16, g17, hf⟩ := am_bd hf
        have hj_j16 := (am_gA_lt g17).1
        refine am_aald2 (t := 6) hE (am_dec tmX12_sample 29 rfl) sh_133 (by decide) rfl rfl g17 (rr_133 hj_j16) ?_
        refine am_iload_n (am_dec tmX12_sample 30 rfl) rfl rfl ?_
        obtain ⟨x18, g19, hf⟩ := am_bd hf
        refine am_iald2 hE (am_dec tmX12_sample 31 rfl) (sa_133_0 hj_j16) g19 ?_
        refine am_goto (tgt := 58) (am_dec tmX12_sample 32 rfl) (by decide) ?_
        have hf := Option.some.inj hf
        subst hf
        exact am_iret (am_dec tmX12_sample 34 rfl) rfl (Nat.zero_le _) (Nat.zero_le _)
    · rw [if_neg c10] at hf
      refine am_iconst (v := (0 : Int32)) (am_dec tmX12_sample 14 rfl) (by decide) ?_
      have hf := Option.some.inj hf
      subst hf
      exact am_iret (am_dec tmX12_sample 15 rfl) rfl (Nat.zero_le _) (Nat.zero_le _)
  replace hf := g20
  refine am_if_ne (tgt := 18) (am_dec tmX12_sample 7 rfl) (by decide) (fun c5 => ?_) (fun c5 => ?_)
  · rw [if_neg c5] at hf
    refine am_iconst (v := (0 : Int32)) (am_dec tmX12_sample 10 rfl) (by decide) ?_
    have hf := Option.some.inj hf
    subst hf
    exact am_pick [0, 1, 2] rfl key6
  · rw [if_pos c5] at hf
    refine am_iconst (v := (1 : Int32)) (am_dec tmX12_sample 8 rfl) (by decide) ?_
    refine am_goto (tgt := 19) (am_dec tmX12_sample 9 rfl) (by decide) ?_
    have hf := Option.some.inj hf
    subst hf
    exact am_pick [0, 1, 2] rfl key6
def f_X12_takes_L12 (q1 : Int32) : Nat → Int32 → am_D → Option (am_D)
  | 0, _, _ => none
  | n + 1, v2, D =>
    if (D.1 117 37) ≤ v2 then
    some (D)
    else
    (am_gA 60 (((12 : Int32) * q1) + v2)).bind fun j6 =>
    (am_gI D (141 + j6) 2 (0 : Int32)).bind fun x8 =>
    (am_pI D 223 26 ((2 : Int32) + ((2 : Int32) * v2)) x8).bind fun D10 =>
    (am_gA 60 (((12 : Int32) * q1) + v2)).bind fun j12 =>
    (am_gI D10 (141 + j12) 2 (1 : Int32)).bind fun x14 =>
    (am_pI D10 223 26 ((3 : Int32) + ((2 : Int32) * v2)) x14).bind fun D16 =>
    f_X12_takes_L12 q1 n (v2 + (1 : Int32)) D16
def f_X12_takes (p1 : Int32) (D : am_D) : Option (am_D) :=
    (am_gI D 201 5 p1).bind fun x1 =>
    (some (am_wI D 117 37 x1)).bind fun D3 =>
    (f_X12_takes_L12 p1 am_fu (0 : Int32) D3).bind fun e18 =>
    some e18
set_option maxRecDepth 100000 in
set_option maxHeartbeats 4000000 in
theorem l_X12_takes_L12 {E : am_E} (hE : am_EH E) {d mc ms : Nat} {o : am_O} {G2 : am_G} {D2 : am_D} (hdp : 1 ≤ d) {q1 : Int32}  : ∀ (n : Nat) (v2 : Int32) (D : am_D) (ex0 : am_D), f_X12_takes_L12 q1 n v2 D = some ex0 → (∀ ex : am_D, ex0 = ex → am_S E mX12_takes d mc ms o G2 D2 0 0 72 [] [] am_G0 ex) → am_S E mX12_takes d mc ms o G2 D2 0 0 12 [(0, .ref 117), (1, .int q1), (2, .int v2)] [] am_G0 D
  | 0, _, _, _, hf, _ => by
    unfold f_X12_takes_L12 at hf
    cases hf
  | n + 1, v2, D, ex0, hf, hk0 => by
    unfold f_X12_takes_L12 at hf
    refine am_iload_n (am_dec tmX12_takes 8 rfl) rfl rfl ?_
    refine am_aload_n (am_dec tmX12_takes 9 rfl) rfl rfl ?_
    refine am_getI (j := 37) hE (am_dec tmX12_takes 10 rfl) sh_117 cf12 (by decide) rfl lf_X12_220 ?_
    refine am_icmp_ge (tgt := 72) (am_dec tmX12_takes 11 rfl) (by decide) (fun c5 => ?_) (fun c5 => ?_)
    · rw [if_pos c5] at hf
      have hf := Option.some.inj hf
      subst hf
      exact am_pick [] rfl (hk0 _ rfl)
    · rw [if_neg c5] at hf
      refine am_aload_n (am_dec tmX12_takes 12 rfl) rfl rfl ?_
      refine am_getR (j := 35) hE (am_dec tmX12_takes 13 rfl) sh_117 cf12 (by decide) rfl lf_X12_76 rf_117_35 ?_
      refine am_iconst (v := (2 : Int32)) (am_dec tmX12_takes 14 rfl) (by decide) ?_
      refine am_iconst (v := (2 : Int32)) (am_dec tmX12_takes 15 rfl) (by decide) ?_
      refine am_iload_n (am_dec tmX12_takes 16 rfl) rfl rfl ?_
      refine am_imul (am_dec tmX12_takes 17 rfl) ?_
      refine am_iadd (am_dec tmX12_takes 18 rfl) ?_
      refine am_aload_n (am_dec tmX12_takes 19 rfl) rfl rfl ?_
      refine am_getR (j := 26) hE (am_dec tmX12_takes 20 rfl) sh_117 cf12 (by decide) rfl lf_X12_49 rf_117_26 ?_
      refine am_bipush (v := (12 : Int32)) (am_dec tmX12_takes 21 rfl) (by decide) ?_
      refine am_iload_n (am_dec tmX12_takes 22 rfl) rfl rfl ?_
      refine am_imul (am_dec tmX12_takes 23 rfl) ?_
      refine am_iload_n (am_dec tmX12_takes 24 rfl) rfl rfl ?_
      refine am_iadd (am_dec tmX12_takes 25 rfl) ?_
      obtain ⟨j6, g7, hf⟩ := am_bd hf
      have hj_j6 := (am_gA_lt g7).1
      refine am_aald2 (t := 6) hE (am_dec tmX12_takes 26 rfl) sh_140 (by decide) rfl rfl g7 (rr_140 hj_j6) ?_
      refine am_iconst (v := (0 : Int32)) (am_dec tmX12_takes 27 rfl) (by decide) ?_
      obtain ⟨x8, g9, hf⟩ := am_bd hf
      refine am_iald2 hE (am_dec tmX12_takes 28 rfl) (sa_140_0 hj_j6) g9 ?_
      obtain ⟨D10, g11, hf⟩ := am_bd hf
      refine am_iast2 hE (am_dec tmX12_takes 29 rfl) sh_223 g11 ?_
      refine am_aload_n (am_dec tmX12_takes 30 rfl) rfl rfl ?_
      refine am_getR (j := 35) hE (am_dec tmX12_takes 31 rfl) sh_117 cf12 (by decide) rfl lf_X12_76 rf_117_35 ?_
      refine am_iconst (v := (3 : Int32)) (am_dec tmX12_takes 32 rfl) (by decide) ?_
      refine am_iconst (v := (2 : Int32)) (am_dec tmX12_takes 33 rfl) (by decide) ?_
      refine am_iload_n (am_dec tmX12_takes 34 rfl) rfl rfl ?_
      refine am_imul (am_dec tmX12_takes 35 rfl) ?_
      refine am_iadd (am_dec tmX12_takes 36 rfl) ?_
      refine am_aload_n (am_dec tmX12_takes 37 rfl) rfl rfl ?_
      refine am_getR (j := 26) hE (am_dec tmX12_takes 38 rfl) sh_117 cf12 (by decide) rfl lf_X12_49 rf_117_26 ?_
      refine am_bipush (v := (12 : Int32)) (am_dec tmX12_takes 39 rfl) (by decide) ?_
      refine am_iload_n (am_dec tmX12_takes 40 rfl) rfl rfl ?_
      refine am_imul (am_dec tmX12_takes 41 rfl) ?_
      refine am_iload_n (am_dec tmX12_takes 42 rfl) rfl rfl ?_
      refine am_iadd (am_dec tmX12_takes 43 rfl) ?_
      obtain ⟨j12, g13, hf⟩ := am_bd hf
      have hj_j12 := (am_gA_lt g13).1
      refine am_aald2 (t := 6) hE (am_dec tmX12_takes 44 rfl) sh_140 (by decide) rfl rfl g13 (rr_140 hj_j12) ?_
      refine am_iconst (v := (1 : Int32)) (am_dec tmX12_takes 45 rfl) (by decide) ?_
      obtain ⟨x14, g15, hf⟩ := am_bd hf
      refine am_iald2 hE (am_dec tmX12_takes 46 rfl) (sa_140_0 hj_j12) g15 ?_
      obtain ⟨D16, g17, hf⟩ := am_bd hf
      refine am_iast2 hE (am_dec tmX12_takes 47 rfl) sh_223 g17 ?_
      refine am_iinc (v := (1 : Int32)) (lv' := [(0, .ref 117), (1, .int q1), (2, .int (v2 + (1 : Int32)))]) (am_dec tmX12_takes 48 rfl) rfl (by decide) (by decide) rfl ?_
      refine am_goto (tgt := 12) (am_dec tmX12_takes 49 rfl) (by decide) ?_
      exact am_pick [0, 1, 2] rfl (l_X12_takes_L12 hE hdp n (v2 + (1 : Int32)) D16 ex0 hf hk0)
set_option maxRecDepth 100000 in
set_option maxHeartbeats 4000000 in
theorem c_X12_takes {E : am_E} (hE : am_EH E) {p1 : Int32} {D : am_D} {r : am_D}  (hf : f_X12_takes p1 D = some r) : am_C E mX12_takes 1 0 0 [.ref 117, .int p1] am_G0 D (.inl none) am_G0 r := by
  refine am_C_of (by decide +kernel) (Nat.le_of_ble_eq_true rfl) ?_
  change am_S E mX12_takes 1 0 0 (.inl none) am_G0 r 0 0 0 [(0, .ref 117), (1, .int p1)] [] am_G0 D
  unfold f_X12_takes at hf
  refine am_aload_n (am_dec tmX12_takes 0 rfl) rfl rfl ?_
  refine am_aload_n (am_dec tmX12_takes 1 rfl) rfl rfl ?_
  refine am_getR (j := 27) hE (am_dec tmX12_takes 2 rfl) sh_117 cf12 (by decide) rfl lf_X12_52 rf_117_27 ?_
  refine am_iload_n (am_dec tmX12_takes 3 rfl) rfl rfl ?_
  obtain ⟨x1, g2, hf⟩ := am_bd hf
  refine am_iald2 hE (am_dec tmX12_takes 4 rfl) sh_201 g2 ?_
  obtain ⟨D3, g4, hf⟩ := am_bd hf
  refine am_putI2 (j := 37) hE (am_dec tmX12_takes 5 rfl) sh_117 cf12 (by decide) rfl lf_X12_220 rfl rfl rfl g4 ?_
  refine am_iconst (v := (0 : Int32)) (am_dec tmX12_takes 6 rfl) (by decide) ?_
  refine am_istore_n (lv' := [(0, .ref 117), (1, .int p1), (2, .int (0 : Int32))]) (am_dec tmX12_takes 7 rfl) rfl (by decide) rfl ?_
  obtain ⟨e18, g19, hf⟩ := am_bd hf
  refine am_pick [0, 1, 2] rfl (l_X12_takes_L12 hE (Nat.le_refl _) am_fu _ _ _ g19 (fun ex he => ?_))
  subst he
  have hf := Option.some.inj hf
  subst hf
  exact am_vret (am_dec tmX12_takes 50 rfl) rfl (Nat.zero_le _) (Nat.zero_le _)
def f_X12_lengthNow (D : am_D) : Option (Int32) :=
    (am_gI D 223 26 (((2 : Int32) * (D.1 117 37)) + (1 : Int32))).bind fun x1 =>
    some x1
set_option maxRecDepth 100000 in
set_option maxHeartbeats 4000000 in
theorem c_X12_lengthNow {E : am_E} (hE : am_EH E) {D : am_D} {r : Int32}  (hf : f_X12_lengthNow D = some r) : am_C E mX12_lengthNow 1 0 0 [.ref 117] am_G0 D (.inl (some (.int r))) am_G0 D := by
  refine am_C_of (by decide +kernel) (Nat.le_of_ble_eq_true rfl) ?_
  change am_S E mX12_lengthNow 1 0 0 (.inl (some (.int r))) am_G0 D 0 0 0 [(0, .ref 117)] [] am_G0 D
  unfold f_X12_lengthNow at hf
  refine am_aload_n (am_dec tmX12_lengthNow 0 rfl) rfl rfl ?_
  refine am_getR (j := 35) hE (am_dec tmX12_lengthNow 1 rfl) sh_117 cf12 (by decide) rfl lf_X12_76 rf_117_35 ?_
  refine am_iconst (v := (2 : Int32)) (am_dec tmX12_lengthNow 2 rfl) (by decide) ?_
  refine am_aload_n (am_dec tmX12_lengthNow 3 rfl) rfl rfl ?_
  refine am_getI (j := 37) hE (am_dec tmX12_lengthNow 4 rfl) sh_117 cf12 (by decide) rfl lf_X12_220 ?_
  refine am_imul (am_dec tmX12_lengthNow 5 rfl) ?_
  refine am_iconst (v := (1 : Int32)) (am_dec tmX12_lengthNow 6 rfl) (by decide) ?_
  refine am_iadd (am_dec tmX12_lengthNow 7 rfl) ?_
  obtain ⟨x1, g2, hf⟩ := am_bd hf
  refine am_iald2 hE (am_dec tmX12_lengthNow 8 rfl) sh_223 g2 ?_
  have hf := Option.some.inj hf
  subst hf
  exact am_iret (am_dec tmX12_lengthNow 9 rfl) rfl (Nat.zero_le _) (Nat.zero_le _)
def f_X12_placeNow_L18 (q1 : Int32) (D : am_D) : Nat → Int32 → Option (Int32)
  | 0, _ => none
  | n + 1, v2 =>
    (am_gI D 223 26 (v2 + (1 : Int32))).bind fun x6 =>
    if q1 < x6 then
    some (v2)
    else
    f_X12_placeNow_L18 q1 D n (v2 + (2 : Int32))
def f_X12_placeNow (p1 : Int32) (D : am_D) : Option (Int32) :=
    (f_X12_lengthNow D).bind fun x2 =>
    (f_X12_in p1 (0 : Int32) (x2 - (1 : Int32))).bind fun x4 =>
    if x4 = 0 then
    some (-1 : Int32)
    else
    (f_X12_placeNow_L18 p1 D am_fu (2 : Int32)).bind fun e9 =>
    (am_gI D 223 26 (e9 - (2 : Int32))).bind fun x10 =>
    (am_gI D 223 26 (e9 - (1 : Int32))).bind fun x12 =>
    (am_gI D 223 26 e9).bind fun x14 =>
    (am_gI D 223 26 (e9 + (1 : Int32))).bind fun x16 =>
    (am_dv ((x14 - x10) * (p1 - x12)) (x16 - x12)).bind fun x18 =>
    some (x10 + x18)
set_option maxRecDepth 100000 in
set_option maxHeartbeats 4000000 in
theorem l_X12_placeNow_L18 {E : am_E} (hE : am_EH E) {d mc ms : Nat} {o : am_O} {G2 : am_G} {D2 : am_D} (hdp : 2 ≤ d) {q1 : Int32} {D : am_D}  : ∀ (n : Nat) (v2 : Int32) (ex0 : Int32), f_X12_placeNow_L18 q1 D n v2 = some ex0 → (∀ ex : Int32, ex0 = ex → am_S E mX12_placeNow d mc ms o G2 D2 0 0 36 [(0, .ref 117), (1, .int q1), (2, .int ex)] [] am_G0 D) → am_S E mX12_placeNow d mc ms o G2 D2 0 0 18 [(0, .ref 117), (1, .int q1), (2, .int v2)] [] am_G0 D
  | 0, _, _, hf, _ => by
    unfold f_X12_placeNow_L18 at hf
    cases hf
  | n + 1, v2, ex0, hf, hk0 => by
    unfold f_X12_placeNow_L18 at hf
    refine am_aload_n (am_dec tmX12_placeNow 12 rfl) rfl rfl ?_
    refine am_getR (j := 35) hE (am_dec tmX12_placeNow 13 rfl) sh_117 cf12 (by decide) rfl lf_X12_76 rf_117_35 ?_
    refine am_iload_n (am_dec tmX12_placeNow 14 rfl) rfl rfl ?_
    refine am_iconst (v := (1 : Int32)) (am_dec tmX12_placeNow 15 rfl) (by decide) ?_
    refine am_iadd (am_dec tmX12_placeNow 16 rfl) ?_
    obtain ⟨x6, g7, hf⟩ := am_bd hf
    refine am_iald2 hE (am_dec tmX12_placeNow 17 rfl) sh_223 g7 ?_
    refine am_iload_n (am_dec tmX12_placeNow 18 rfl) rfl rfl ?_
    refine am_icmp_gt (tgt := 36) (am_dec tmX12_placeNow 19 rfl) (by decide) (fun c8 => ?_) (fun c8 => ?_)
    · rw [if_pos c8] at hf
      have hf := Option.some.inj hf
      subst hf
      exact am_pick [0, 1, 2] rfl (hk0 _ rfl)
    · rw [if_neg c8] at hf
      refine am_iinc (v := (2 : Int32)) (lv' := [(0, .ref 117), (1, .int q1), (2, .int (v2 + (2 : Int32)))]) (am_dec tmX12_placeNow 20 rfl) rfl (by decide) (by decide) rfl ?_
      refine am_goto (tgt := 18) (am_dec tmX12_placeNow 21 rfl) (by decide) ?_
      exact am_pick [0, 1, 2] rfl (l_X12_placeNow_L18 hE hdp n (v2 + (2 : Int32)) ex0 hf hk0)
set_option maxRecDepth 100000 in
set_option maxHeartbeats 4000000 in
theorem c_X12_placeNow {E : am_E} (hE : am_EH E) {p1 : Int32} {D : am_D} {r : Int32}  (hf : f_X12_placeNow p1 D = some r) : am_C E mX12_placeNow 2 0 0 [.ref 117, .int p1] am_G0 D (.inl (some (.int r))) am_G0 D := by
  refine am_C_of (by decide +kernel) (Nat.le_of_ble_eq_true rfl) ?_
  change am_S E mX12_placeNow 2 0 0 (.inl (some (.int r))) am_G0 D 0 0 0 [(0, .ref 117), (1, .int p1)] [] am_G0 D
  unfold f_X12_placeNow at hf
  refine am_iload_n (am_dec tmX12_placeNow 0 rfl) rfl rfl ?_
  refine am_iconst (v := (0 : Int32)) (am_dec tmX12_placeNow 1 rfl) (by decide) ?_
  refine am_aload_n (am_dec tmX12_placeNow 2 rfl) rfl rfl ?_
  obtain ⟨x2, g1, hf⟩ := am_bd hf
  refine am_callV1 (As := []) (st := [.int (0 : Int32), .int p1]) hE (am_dec tmX12_placeNow 3 rfl) ok_X12_lengthNow rfl lm_X12_223 in_X12_lengthNow se_X12_lengthNow sh_117 cf12 (c_X12_lengthNow hE g1) rfl (by decide) (Nat.le_of_ble_eq_true rfl) (Nat.zero_le _) (Nat.zero_le _) rfl ?_
  refine am_iconst (v := (1 : Int32)) (am_dec tmX12_placeNow 4 rfl) (by decide) ?_
  refine am_isub (am_dec tmX12_placeNow 5 rfl) ?_
  obtain ⟨x4, g3, hf⟩ := am_bd hf
  refine am_callS1 (As := [.int p1, .int (0 : Int32), .int (x2 - (1 : Int32))]) (st := []) (am_dec tmX12_placeNow 6 rfl) ok_X12_in rfl lm_X12_144 st_X12_in (c_X12_in hE g3) rfl (by decide) (Nat.le_of_ble_eq_true rfl) (Nat.zero_le _) (Nat.zero_le _) rfl ?_
  refine am_if_ne (tgt := 16) (am_dec tmX12_placeNow 7 rfl) (by decide) (fun c5 => ?_) (fun c5 => ?_)
  · rw [if_neg c5] at hf
    refine am_iconst (v := (2 : Int32)) (am_dec tmX12_placeNow 10 rfl) (by decide) ?_
    refine am_istore_n (lv' := [(0, .ref 117), (1, .int p1), (2, .int (2 : Int32))]) (am_dec tmX12_placeNow 11 rfl) rfl (by decide) rfl ?_
    obtain ⟨e9, g20, hf⟩ := am_bd hf
    refine am_pick [0, 1, 2] rfl (l_X12_placeNow_L18 hE (Nat.le_refl _) am_fu _ _ g20 (fun ex he => ?_))
    subst he
    refine am_aload_n (am_dec tmX12_placeNow 22 rfl) rfl rfl ?_
    refine am_getR (j := 35) hE (am_dec tmX12_placeNow 23 rfl) sh_117 cf12 (by decide) rfl lf_X12_76 rf_117_35 ?_
    refine am_iload_n (am_dec tmX12_placeNow 24 rfl) rfl rfl ?_
    refine am_iconst (v := (2 : Int32)) (am_dec tmX12_placeNow 25 rfl) (by decide) ?_
    refine am_isub (am_dec tmX12_placeNow 26 rfl) ?_
    obtain ⟨x10, g11, hf⟩ := am_bd hf
    refine am_iald2 hE (am_dec tmX12_placeNow 27 rfl) sh_223 g11 ?_
    refine am_istore_n (lv' := [(0, .ref 117), (1, .int p1), (2, .int e9), (3, .int x10)]) (am_dec tmX12_placeNow 28 rfl) rfl (by decide) rfl ?_
    refine am_aload_n (am_dec tmX12_placeNow 29 rfl) rfl rfl ?_
    refine am_getR (j := 35) hE (am_dec tmX12_placeNow 30 rfl) sh_117 cf12 (by decide) rfl lf_X12_76 rf_117_35 ?_
    refine am_iload_n (am_dec tmX12_placeNow 31 rfl) rfl rfl ?_
    refine am_iconst (v := (1 : Int32)) (am_dec tmX12_placeNow 32 rfl) (by decide) ?_
    refine am_isub (am_dec tmX12_placeNow 33 rfl) ?_
    obtain ⟨x12, g13, hf⟩ := am_bd hf
    refine am_iald2 hE (am_dec tmX12_placeNow 34 rfl) sh_223 g13 ?_
    refine am_istore (lv' := [(0, .ref 117), (1, .int p1), (2, .int e9), (3, .int x10), (4, .int x12)]) (am_dec tmX12_placeNow 35 rfl) (by decide) rfl ?_
    refine am_iload_n (am_dec tmX12_placeNow 36 rfl) rfl rfl ?_
    refine am_aload_n (am_dec tmX12_placeNow 37 rfl) rfl rfl ?_
    refine am_getR (j := 35) hE (am_dec tmX12_placeNow 38 rfl) sh_117 cf12 (by decide) rfl lf_X12_76 rf_117_35 ?_
    refine am_iload_n (am_dec tmX12_placeNow 39 rfl) rfl rfl ?_
    obtain ⟨x14, g15, hf⟩ := am_bd hf
    refine am_iald2 hE (am_dec tmX12_placeNow 40 rfl) sh_223 g15 ?_
    refine am_iload_n (am_dec tmX12_placeNow 41 rfl) rfl rfl ?_
    refine am_isub (am_dec tmX12_placeNow 42 rfl) ?_
    refine am_iload_n (am_dec tmX12_placeNow 43 rfl) rfl rfl ?_
    refine am_iload (am_dec tmX12_placeNow 44 rfl) rfl ?_
    refine am_isub (am_dec tmX12_placeNow 45 rfl) ?_
    refine am_imul (am_dec tmX12_placeNow 46 rfl) ?_
    refine am_aload_n (am_dec tmX12_placeNow 47 rfl) rfl rfl ?_
    refine am_getR (j := 35) hE (am_dec tmX12_placeNow 48 rfl) sh_117 cf12 (by decide) rfl lf_X12_76 rf_117_35 ?_
    refine am_iload_n (am_dec tmX12_placeNow 49 rfl) rfl rfl ?_
    refine am_iconst (v := (1 : Int32)) (am_dec tmX12_placeNow 50 rfl) (by decide) ?_
    refine am_iadd (am_dec tmX12_placeNow 51 rfl) ?_
    obtain ⟨x16, g17, hf⟩ := am_bd hf
    refine am_iald2 hE (am_dec tmX12_placeNow 52 rfl) sh_223 g17 ?_
    refine am_iload (am_dec tmX12_placeNow 53 rfl) rfl ?_
    refine am_isub (am_dec tmX12_placeNow 54 rfl) ?_
    obtain ⟨x18, g19, hf⟩ := am_bd hf
    refine am_idiv2 (am_dec tmX12_placeNow 55 rfl) g19 ?_
    refine am_iadd (am_dec tmX12_placeNow 56 rfl) ?_
    have hf := Option.some.inj hf
    subst hf
    exact am_iret (am_dec tmX12_placeNow 57 rfl) rfl (Nat.zero_le _) (Nat.zero_le _)
  · rw [if_pos c5] at hf
    refine am_iconst (v := (-1 : Int32)) (am_dec tmX12_placeNow 8 rfl) (by decide) ?_
    have hf := Option.some.inj hf
    subst hf
    exact am_iret (am_dec tmX12_placeNow 9 rfl) rfl (Nat.zero_le _) (Nat.zero_le _)
def f_X12_whereNow_L2 (q1 : Int32) (D : am_D) : Nat → Int32 → Option (Int32 ⊕ Unit)
  | 0, _ => none
  | n + 1, v2 =>
    (f_X12_lengthNow D).bind fun x2 =>
    if x2 ≤ v2 then
    some (.inr ())
    else
    (f_X12_placeNow v2 D).bind fun x5 =>
    if x5 < q1 then
    f_X12_whereNow_L2 q1 D n (v2 + (1 : Int32))
    else
    some (.inl (v2))
def f_X12_whereNow (p1 : Int32) (D : am_D) : Option (Int32) :=
    am_b2 (f_X12_whereNow_L2 p1 D am_fu (0 : Int32))
    (fun e7 =>
    some e7)
    (fun e8 =>
    some (-1 : Int32))
set_option maxRecDepth 100000 in
set_option maxHeartbeats 4000000 in
theorem l_X12_whereNow_L2 {E : am_E} (hE : am_EH E) {d mc ms : Nat} {o : am_O} {G2 : am_G} {D2 : am_D} (hdp : 3 ≤ d) {q1 : Int32} {D : am_D}  : ∀ (n : Nat) (v2 : Int32) (ex0 : Int32 ⊕ Unit), f_X12_whereNow_L2 q1 D n v2 = some ex0 → (∀ ex : Int32, ex0 = .inl ex → am_S E mX12_whereNow d mc ms o G2 D2 0 0 19 [(2, .int ex)] [] am_G0 D) → (∀ ex : Unit, ex0 = .inr ex → am_S E mX12_whereNow d mc ms o G2 D2 0 0 27 [] [] am_G0 D) → am_S E mX12_whereNow d mc ms o G2 D2 0 0 2 [(0, .ref 117), (1, .int q1), (2, .int v2)] [] am_G0 D
  | 0, _, _, hf, _, _ => by
    unfold f_X12_whereNow_L2 at hf
    cases hf
  | n + 1, v2, ex0, hf, hk0, hk1 => by
    unfold f_X12_whereNow_L2 at hf
    refine am_iload_n (am_dec tmX12_whereNow 2 rfl) rfl rfl ?_
    refine am_aload_n (am_dec tmX12_whereNow 3 rfl) rfl rfl ?_
    obtain ⟨x2, g1, hf⟩ := am_bd hf
    refine am_callV1 (As := []) (st := [.int v2]) hE (am_dec tmX12_whereNow 4 rfl) ok_X12_lengthNow rfl lm_X12_223 in_X12_lengthNow se_X12_lengthNow sh_117 cf12 (c_X12_lengthNow hE g1) rfl (Nat.lt_of_lt_of_le (by decide) hdp) (Nat.le_of_ble_eq_true rfl) (Nat.zero_le _) (Nat.zero_le _) rfl ?_
    refine am_icmp_ge (tgt := 27) (am_dec tmX12_whereNow 5 rfl) (by decide) (fun c3 => ?_) (fun c3 => ?_)
    · rw [if_pos c3] at hf
      have hf := Option.some.inj hf
      subst hf
      exact am_pick [] rfl (hk1 _ rfl)
    · rw [if_neg c3] at hf
      refine am_aload_n (am_dec tmX12_whereNow 6 rfl) rfl rfl ?_
      refine am_iload_n (am_dec tmX12_whereNow 7 rfl) rfl rfl ?_
      obtain ⟨x5, g4, hf⟩ := am_bd hf
      refine am_callV1 (As := [.int v2]) (st := []) hE (am_dec tmX12_whereNow 8 rfl) ok_X12_placeNow rfl lm_X12_226 in_X12_placeNow se_X12_placeNow sh_117 cf12 (c_X12_placeNow hE g4) rfl (Nat.lt_of_lt_of_le (by decide) hdp) (Nat.le_of_ble_eq_true rfl) (Nat.zero_le _) (Nat.zero_le _) rfl ?_
      refine am_iload_n (am_dec tmX12_whereNow 9 rfl) rfl rfl ?_
      refine am_icmp_lt (tgt := 21) (am_dec tmX12_whereNow 10 rfl) (by decide) (fun c6 => ?_) (fun c6 => ?_)
      · rw [if_pos c6] at hf
        refine am_iinc (v := (1 : Int32)) (lv' := [(0, .ref 117), (1, .int q1), (2, .int (v2 + (1 : Int32)))]) (am_dec tmX12_whereNow 13 rfl) rfl (by decide) (by decide) rfl ?_
        refine am_goto (tgt := 2) (am_dec tmX12_whereNow 14 rfl) (by decide) ?_
        exact am_pick [0, 1, 2] rfl (l_X12_whereNow_L2 hE hdp n (v2 + (1 : Int32)) ex0 hf hk0 hk1)
      · rw [if_neg c6] at hf
        have hf := Option.some.inj hf
        subst hf
        exact am_pick [2] rfl (hk0 _ rfl)
set_option maxRecDepth 100000 in
set_option maxHeartbeats 4000000 in
theorem c_X12_whereNow {E : am_E} (hE : am_EH E) {p1 : Int32} {D : am_D} {r : Int32}  (hf : f_X12_whereNow p1 D = some r) : am_C E mX12_whereNow 3 0 0 [.ref 117, .int p1] am_G0 D (.inl (some (.int r))) am_G0 D := by
  refine am_C_of (by decide +kernel) (Nat.le_of_ble_eq_true rfl) ?_
  change am_S E mX12_whereNow 3 0 0 (.inl (some (.int r))) am_G0 D 0 0 0 [(0, .ref 117), (1, .int p1)] [] am_G0 D
  unfold f_X12_whereNow at hf
  refine am_iconst (v := (0 : Int32)) (am_dec tmX12_whereNow 0 rfl) (by decide) ?_
  refine am_istore_n (lv' := [(0, .ref 117), (1, .int p1), (2, .int (0 : Int32))]) (am_dec tmX12_whereNow 1 rfl) rfl (by decide) rfl ?_
  rcases am_b2d hf with ⟨e7, g9, hf⟩ | ⟨e8, g9, hf⟩
  · refine am_pick [0, 1, 2] rfl (l_X12_whereNow_L2 hE (Nat.le_refl _) am_fu _ _ g9 (fun ex he => ?_) (fun ex he => by cases he))
    cases he
    refine am_iload_n (am_dec tmX12_whereNow 11 rfl) rfl rfl ?_
    have hf := Option.some.inj hf
    subst hf
    exact am_iret (am_dec tmX12_whereNow 12 rfl) rfl (Nat.zero_le _) (Nat.zero_le _)
  · refine am_pick [0, 1, 2] rfl (l_X12_whereNow_L2 hE (Nat.le_refl _) am_fu _ _ g9 (fun ex he => by cases he) (fun ex he => ?_))
    cases he
    refine am_iconst (v := (-1 : Int32)) (am_dec tmX12_whereNow 15 rfl) (by decide) ?_
    have hf := Option.some.inj hf
    subst hf
    exact am_iret (am_dec tmX12_whereNow 16 rfl) rfl (Nat.zero_le _) (Nat.zero_le _)
def f_X12_lastOf (p1 : Int32) (D : am_D) : Option (Int32) :=
    (am_gI D 201 5 p1).bind fun x1 =>
    (am_gA 60 ((((12 : Int32) * p1) + x1) - (1 : Int32))).bind fun j3 =>
    (am_gI D (141 + j3) 2 (0 : Int32)).bind fun x5 =>
    some x5
set_option maxRecDepth 100000 in
set_option maxHeartbeats 4000000 in
theorem c_X12_lastOf {E : am_E} (hE : am_EH E) {p1 : Int32} {D : am_D} {r : Int32}  (hf : f_X12_lastOf p1 D = some r) : am_C E mX12_lastOf 1 0 0 [.ref 117, .int p1] am_G0 D (.inl (some (.int r))) am_G0 D := by
  refine am_C_of (by decide +kernel) (Nat.le_of_ble_eq_true rfl) ?_
  change am_S E mX12_lastOf 1 0 0 (.inl (some (.int r))) am_G0 D 0 0 0 [(0, .ref 117), (1, .int p1)] [] am_G0 D
  unfold f_X12_lastOf at hf
  refine am_aload_n (am_dec tmX12_lastOf 0 rfl) rfl rfl ?_
  refine am_getR (j := 26) hE (am_dec tmX12_lastOf 1 rfl) sh_117 cf12 (by decide) rfl lf_X12_49 rf_117_26 ?_
  refine am_bipush (v := (12 : Int32)) (am_dec tmX12_lastOf 2 rfl) (by decide) ?_
  refine am_iload_n (am_dec tmX12_lastOf 3 rfl) rfl rfl ?_
  refine am_imul (am_dec tmX12_lastOf 4 rfl) ?_
  refine am_aload_n (am_dec tmX12_lastOf 5 rfl) rfl rfl ?_
  refine am_getR (j := 27) hE (am_dec tmX12_lastOf 6 rfl) sh_117 cf12 (by decide) rfl lf_X12_52 rf_117_27 ?_
  refine am_iload_n (am_dec tmX12_lastOf 7 rfl) rfl rfl ?_
  obtain ⟨x1, g2, hf⟩ := am_bd hf
  refine am_iald2 hE (am_dec tmX12_lastOf 8 rfl) sh_201 g2 ?_
  refine am_iadd (am_dec tmX12_lastOf 9 rfl) ?_
  refine am_iconst (v := (1 : Int32)) (am_dec tmX12_lastOf 10 rfl) (by decide) ?_
  refine am_isub (am_dec tmX12_lastOf 11 rfl) ?_
  obtain ⟨j3, g4, hf⟩ := am_bd hf
  have hj_j3 := (am_gA_lt g4).1
  refine am_aald2 (t := 6) hE (am_dec tmX12_lastOf 12 rfl) sh_140 (by decide) rfl rfl g4 (rr_140 hj_j3) ?_
  refine am_iconst (v := (0 : Int32)) (am_dec tmX12_lastOf 13 rfl) (by decide) ?_
  obtain ⟨x5, g6, hf⟩ := am_bd hf
  refine am_iald2 hE (am_dec tmX12_lastOf 14 rfl) (sa_140_0 hj_j3) g6 ?_
  have hf := Option.some.inj hf
  subst hf
  exact am_iret (am_dec tmX12_lastOf 15 rfl) rfl (Nat.zero_le _) (Nat.zero_le _)
def f_X12_lengthOf (p1 : Int32) (D : am_D) : Option (Int32) :=
    (am_gI D 201 5 p1).bind fun x1 =>
    (am_gA 60 ((((12 : Int32) * p1) + x1) - (1 : Int32))).bind fun j3 =>
    (am_gI D (141 + j3) 2 (1 : Int32)).bind fun x5 =>
    some x5
set_option maxRecDepth 100000 in
set_option maxHeartbeats 4000000 in
theorem c_X12_lengthOf {E : am_E} (hE : am_EH E) {p1 : Int32} {D : am_D} {r : Int32}  (hf : f_X12_lengthOf p1 D = some r) : am_C E mX12_lengthOf 1 0 0 [.ref 117, .int p1] am_G0 D (.inl (some (.int r))) am_G0 D := by
  refine am_C_of (by decide +kernel) (Nat.le_of_ble_eq_true rfl) ?_
  change am_S E mX12_lengthOf 1 0 0 (.inl (some (.int r))) am_G0 D 0 0 0 [(0, .ref 117), (1, .int p1)] [] am_G0 D
  unfold f_X12_lengthOf at hf
  refine am_aload_n (am_dec tmX12_lengthOf 0 rfl) rfl rfl ?_
  refine am_getR (j := 26) hE (am_dec tmX12_lengthOf 1 rfl) sh_117 cf12 (by decide) rfl lf_X12_49 rf_117_26 ?_
  refine am_bipush (v := (12 : Int32)) (am_dec tmX12_lengthOf 2 rfl) (by decide) ?_
  refine am_iload_n (am_dec tmX12_lengthOf 3 rfl) rfl rfl ?_
  refine am_imul (am_dec tmX12_lengthOf 4 rfl) ?_
  refine am_aload_n (am_dec tmX12_lengthOf 5 rfl) rfl rfl ?_
  refine am_getR (j := 27) hE (am_dec tmX12_lengthOf 6 rfl) sh_117 cf12 (by decide) rfl lf_X12_52 rf_117_27 ?_
  refine am_iload_n (am_dec tmX12_lengthOf 7 rfl) rfl rfl ?_
  obtain ⟨x1, g2, hf⟩ := am_bd hf
  refine am_iald2 hE (am_dec tmX12_lengthOf 8 rfl) sh_201 g2 ?_
  refine am_iadd (am_dec tmX12_lengthOf 9 rfl) ?_
  refine am_iconst (v := (1 : Int32)) (am_dec tmX12_lengthOf 10 rfl) (by decide) ?_
  refine am_isub (am_dec tmX12_lengthOf 11 rfl) ?_
  obtain ⟨j3, g4, hf⟩ := am_bd hf
  have hj_j3 := (am_gA_lt g4).1
  refine am_aald2 (t := 6) hE (am_dec tmX12_lengthOf 12 rfl) sh_140 (by decide) rfl rfl g4 (rr_140 hj_j3) ?_
  refine am_iconst (v := (1 : Int32)) (am_dec tmX12_lengthOf 13 rfl) (by decide) ?_
  obtain ⟨x5, g6, hf⟩ := am_bd hf
  refine am_iald2 hE (am_dec tmX12_lengthOf 14 rfl) (sa_140_0 hj_j3) g6 ?_
  have hf := Option.some.inj hf
  subst hf
  exact am_iret (am_dec tmX12_lengthOf 15 rfl) rfl (Nat.zero_le _) (Nat.zero_le _)
def f_X12_told (p1 : Int32) (p2 : Int32) (D : am_D) : Option ((Int32 × am_D)) :=
    (some (am_wI D 117 0 (0 : Int32))).bind fun D1 =>
    (f_X12_isMap p1 D1).bind fun x4 =>
    (if x4 = 0 then
    some ((1 : Int32))
    else
    some ((0 : Int32))).bind fun w7 =>
    (f_X12_bad w7 (1 : Int32) D1).bind fun x9 =>
    if x9.1 = 0 then
    (f_X12_in p2 (0 : Int32) (2 : Int32)).bind fun x12 =>
    (if x12 = 0 then
    some ((1 : Int32))
    else
    some ((0 : Int32))).bind fun w15 =>
    (f_X12_bad w15 (2 : Int32) x9.2).bind fun x17 =>
    if x17.1 = 0 then
    if p2 = 0 then
    (am_gI x17.2 201 5 p1).bind fun x25 =>
    some (x25, x17.2)
    else
    if p2 = (1 : Int32) then
    (f_X12_lengthOf p1 x17.2).bind fun x24 =>
    some (x24, x17.2)
    else
    (f_X12_lastOf p1 x17.2).bind fun x22 =>
    some (x22, x17.2)
    else
    some ((0 : Int32), x17.2)
    else
    some ((0 : Int32), x9.2)
set_option maxRecDepth 100000 in
set_option maxHeartbeats 4000000 in
theorem c_X12_told {E : am_E} (hE : am_EH E) {p1 : Int32} {p2 : Int32} {D : am_D} {r : (Int32 × am_D)}  (hf : f_X12_told p1 p2 D = some r) : am_C E mX12_told 3 0 0 [.ref 117, .int p1, .int p2] am_G0 D (.inl (some (.int r.1))) am_G0 r.2 := by
  refine am_C_of (by decide +kernel) (Nat.le_of_ble_eq_true rfl) ?_
  change am_S E mX12_told 3 0 0 (.inl (some (.int r.1))) am_G0 r.2 0 0 0 [(0, .ref 117), (1, .int p1), (2, .int p2)] [] am_G0 D
  unfold f_X12_told at hf
  refine am_aload_n (am_dec tmX12_told 0 rfl) rfl rfl ?_
  refine am_iconst (v := (0 : Int32)) (am_dec tmX12_told 1 rfl) (by decide) ?_
  obtain ⟨D1, g2, hf⟩ := am_bd hf
  refine am_putI2 (j := 0) hE (am_dec tmX12_told 2 rfl) sh_117 cf12 (by decide) rfl lf_X12_110 rfl rfl rfl g2 ?_
  refine am_aload_n (am_dec tmX12_told 3 rfl) rfl rfl ?_
  refine am_aload_n (am_dec tmX12_told 4 rfl) rfl rfl ?_
  refine am_iload_n (am_dec tmX12_told 5 rfl) rfl rfl ?_
  obtain ⟨x4, g3, hf⟩ := am_bd hf
  refine am_callV1 (As := [.int p1]) (st := [.ref 117]) hE (am_dec tmX12_told 6 rfl) ok_X12_isMap rfl lm_X12_229 in_X12_isMap se_X12_isMap sh_117 cf12 (c_X12_isMap hE g3) rfl (by decide) (Nat.le_of_ble_eq_true rfl) (Nat.zero_le _) (Nat.zero_le _) rfl ?_
  obtain ⟨w7, g28, hf⟩ := am_bd hf
  have key6 : am_S E mX12_told 3 0 0 (.inl (some (.int r.1))) am_G0 r.2 0 0 19 [(0, .ref 117), (1, .int p1), (2, .int p2)] [.int w7, .ref 117] am_G0 D1 := by
    refine am_iconst (v := (1 : Int32)) (am_dec tmX12_told 11 rfl) (by decide) ?_
    obtain ⟨x9, g8, hf⟩ := am_bd hf
    refine am_callV1 (As := [.int w7, .int (1 : Int32)]) (st := []) hE (am_dec tmX12_told 12 rfl) ok_X12_bad rfl lm_X12_191 in_X12_bad se_X12_bad sh_117 cf12 (c_X12_bad hE g8) rfl (by decide) (Nat.le_of_ble_eq_true rfl) (Nat.zero_le _) (Nat.zero_le _) rfl ?_
    refine am_if_ne (tgt := 48) (am_dec tmX12_told 13 rfl) (by decide) (fun c10 => ?_) (fun c10 => ?_)
    · rw [if_neg c10] at hf
      refine am_iconst (v := (0 : Int32)) (am_dec tmX12_told 26 rfl) (by decide) ?_
      have hf := Option.some.inj hf
      subst hf
      exact am_iret (am_dec tmX12_told 27 rfl) rfl (Nat.zero_le _) (Nat.zero_le _)
    · rw [if_pos c10] at hf
      refine am_aload_n (am_dec tmX12_told 14 rfl) rfl rfl ?_
      refine am_iload_n (am_dec tmX12_told 15 rfl) rfl rfl ?_
      refine am_iconst (v := (0 : Int32)) (am_dec tmX12_told 16 rfl) (by decide) ?_
      refine am_iconst (v := (2 : Int32)) (am_dec tmX12_told 17 rfl) (by decide) ?_
      obtain ⟨x12, g11, hf⟩ := am_bd hf
      refine am_callS1 (As := [.int p2, .int (0 : Int32), .int (2 : Int32)]) (st := [.ref 117]) (am_dec tmX12_told 18 rfl) ok_X12_in rfl lm_X12_144 st_X12_in (c_X12_in hE g11) rfl (by decide) (Nat.le_of_ble_eq_true rfl) (Nat.zero_le _) (Nat.zero_le _) rfl ?_
      obtain ⟨w15, g27, hf⟩ := am_bd hf
      have key14 : am_S E mX12_told 3 0 0 (.inl (some (.int r.1))) am_G0 r.2 0 0 41 [(0, .ref 117), (1, .int p1), (2, .int p2)] [.int w15, .ref 117] am_G0 x9.2 := by
        refine am_iconst (v := (2 : Int32)) (am_dec tmX12_told 23 rfl) (by decide) ?_
        obtain ⟨x17, g16, hf⟩ := am_bd hf
        refine am_callV1 (As := [.int w15, .int (2 : Int32)]) (st := []) hE (am_dec tmX12_told 24 rfl) ok_X12_bad rfl lm_X12_191 in_X12_bad se_X12_bad sh_117 cf12 (c_X12_bad hE g16) rfl (by decide) (Nat.le_of_ble_eq_true rfl) (Nat.zero_le _) (Nat.zero_le _) rfl ?_
        refine am_if_eq (tgt := 50) (am_dec tmX12_told 25 rfl) (by decide) (fun c18 => ?_) (fun c18 => ?_)
        · rw [if_pos c18] at hf
          refine am_iload_n (am_dec tmX12_told 28 rfl) rfl rfl ?_
          refine am_if_ne (tgt := 63) (am_dec tmX12_told 29 rfl) (by decide) (fun c19 => ?_) (fun c19 => ?_)
          · rw [if_neg c19] at hf
            refine am_iload_n (am_dec tmX12_told 35 rfl) rfl rfl ?_
            refine am_iconst (v := (1 : Int32)) (am_dec tmX12_told 36 rfl) (by decide) ?_
            refine am_icmp_ne (tgt := 76) (am_dec tmX12_told 37 rfl) (by decide) (fun c20 => ?_) (fun c20 => ?_)
            · rw [if_neg c20] at hf
              refine am_aload_n (am_dec tmX12_told 42 rfl) rfl rfl ?_
              refine am_iload_n (am_dec tmX12_told 43 rfl) rfl rfl ?_
              obtain ⟨x22, g21, hf⟩ := am_bd hf
              refine am_callV1 (As := [.int p1]) (st := []) hE (am_dec tmX12_told 44 rfl) ok_X12_lastOf rfl lm_X12_235 in_X12_lastOf se_X12_lastOf sh_117 cf12 (c_X12_lastOf hE g21) rfl (by decide) (Nat.le_of_ble_eq_true rfl) (Nat.zero_le _) (Nat.zero_le _) rfl ?_
              have hf := Option.some.inj hf
              subst hf
              exact am_iret (am_dec tmX12_told 45 rfl) rfl (Nat.zero_le _) (Nat.zero_le _)
            · rw [if_pos c20] at hf
              refine am_aload_n (am_dec tmX12_told 38 rfl) rfl rfl ?_
              refine am_iload_n (am_dec tmX12_told 39 rfl) rfl rfl ?_
              obtain ⟨x24, g23, hf⟩ := am_bd hf
              refine am_callV1 (As := [.int p1]) (st := []) hE (am_dec tmX12_told 40 rfl) ok_X12_lengthOf rfl lm_X12_232 in_X12_lengthOf se_X12_lengthOf sh_117 cf12 (c_X12_lengthOf hE g23) rfl (by decide) (Nat.le_of_ble_eq_true rfl) (Nat.zero_le _) (Nat.zero_le _) rfl ?_
              refine am_goto (tgt := 81) (am_dec tmX12_told 41 rfl) (by decide) ?_
              have hf := Option.some.inj hf
              subst hf
              exact am_iret (am_dec tmX12_told 45 rfl) rfl (Nat.zero_le _) (Nat.zero_le _)
          · rw [if_pos c19] at hf
            refine am_aload_n (am_dec tmX12_told 30 rfl) rfl rfl ?_
            refine am_getR (j := 27) hE (am_dec tmX12_told 31 rfl) sh_117 cf12 (by decide) rfl lf_X12_52 rf_117_27 ?_
            refine am_iload_n (am_dec tmX12_told 32 rfl) rfl rfl ?_
            obtain ⟨x25, g26, hf⟩ := am_bd hf
            refine am_iald2 hE (am_dec tmX12_told 33 rfl) sh_201 g26 ?_
            refine am_goto (tgt := 81) (am_dec tmX12_told 34 rfl) (by decide) ?_
            have hf := Option.some.inj hf
            subst hf
            exact am_iret (am_dec tmX12_told 45 rfl) rfl (Nat.zero_le _) (Nat.zero_le _)
        · rw [if_neg c18] at hf
          refine am_iconst (v := (0 : Int32)) (am_dec tmX12_told 26 rfl) (by decide) ?_
          have hf := Option.some.inj hf
          subst hf
          exact am_iret (am_dec tmX12_told 27 rfl) rfl (Nat.zero_le _) (Nat.zero_le _)
      replace hf := g27
      refine am_if_ne (tgt := 40) (am_dec tmX12_told 19 rfl) (by decide) (fun c13 => ?_) (fun c13 => ?_)
      · rw [if_neg c13] at hf
        refine am_iconst (v := (0 : Int32)) (am_dec tmX12_told 22 rfl) (by decide) ?_
        have hf := Option.some.inj hf
        subst hf
        exact am_pick [0, 1, 2] rfl key14
      · rw [if_pos c13] at hf
        refine am_iconst (v := (1 : Int32)) (am_dec tmX12_told 20 rfl) (by decide) ?_
        refine am_goto (tgt := 41) (am_dec tmX12_told 21 rfl) (by decide) ?_
        have hf := Option.some.inj hf
        subst hf
        exact am_pick [0, 1, 2] rfl key14
  replace hf := g28
  refine am_if_ne (tgt := 18) (am_dec tmX12_told 7 rfl) (by decide) (fun c5 => ?_) (fun c5 => ?_)
  · rw [if_neg c5] at hf
    refine am_iconst (v := (0 : Int32)) (am_dec tmX12_told 10 rfl) (by decide) ?_
    have hf := Option.some.inj hf
    subst hf
    exact am_pick [0, 1, 2] rfl key6
  · rw [if_pos c5] at hf
    refine am_iconst (v := (1 : Int32)) (am_dec tmX12_told 8 rfl) (by decide) ?_
    refine am_goto (tgt := 19) (am_dec tmX12_told 9 rfl) (by decide) ?_
    have hf := Option.some.inj hf
    subst hf
    exact am_pick [0, 1, 2] rfl key6
def f_X12_lays_L2  : Nat → Int32 → am_D → Option (am_D)
  | 0, _, _ => none
  | n + 1, v1, D =>
    if (1200 : Int32) ≤ v1 then
    some (D)
    else
    (am_gI D 221 1200 v1).bind fun x2 =>
    (am_pI D 1425 1200 v1 x2).bind fun D4 =>
    (am_gI D4 222 1200 v1).bind fun x6 =>
    (am_pI D4 1426 1200 v1 x6).bind fun D8 =>
    f_X12_lays_L2 n (v1 + (1 : Int32)) D8
def f_X12_lays_L41  : Nat → Int32 → am_D → Option (am_D)
  | 0, _, _ => none
  | n + 1, v1, D =>
    if (26 : Int32) ≤ v1 then
    some (D)
    else
    (am_gI D 223 26 v1).bind fun x12 =>
    (am_pI D 1427 26 v1 x12).bind fun D14 =>
    f_X12_lays_L41 n (v1 + (1 : Int32)) D14
def f_X12_lays_L77 (q1 : Int32) : Nat → Int32 → am_D → Option (am_D)
  | 0, _, _ => none
  | n + 1, v2, D =>
    if (3 : Int32) ≤ v2 then
    some (D)
    else
    (am_gA 1200 q1).bind fun j19 =>
    (am_gA 1200 q1).bind fun j21 =>
    (am_gI D (225 + j21) 3 v2).bind fun x23 =>
    (am_pI D (1429 + j19) 3 v2 x23).bind fun D25 =>
    f_X12_lays_L77 q1 n (v2 + (1 : Int32)) D25
def f_X12_lays_L67  : Nat → Int32 → am_D → Option (am_D)
  | 0, _, _ => none
  | n + 1, v1, D =>
    if (D.1 117 39) ≤ v1 then
    some (D)
    else
    (f_X12_lays_L77 v1 am_fu (0 : Int32) D).bind fun e27 =>
    f_X12_lays_L67 n (v1 + (1 : Int32)) e27
def f_X12_lays (D : am_D) : Option (am_D) :=
    (f_X12_lays_L2 am_fu (0 : Int32) D).bind fun e10 =>
    (f_X12_lays_L41 am_fu (0 : Int32) e10).bind fun e16 =>
    (f_X12_lays_L67 am_fu (0 : Int32) e16).bind fun e29 =>
    (some (am_wI e29 117 46 (e29.1 117 36))).bind fun D30 =>
    (some (am_wI D30 117 47 (D30.1 117 37))).bind fun D32 =>
    (some (am_wI D32 117 48 (D32.1 117 38))).bind fun D34 =>
    (some (am_wI D34 117 49 (D34.1 117 39))).bind fun D36 =>
    (am_zb (D36.1 117 40)).bind fun z40 =>
    (some (am_wI D36 117 50 (D36.1 117 40))).bind fun D38 =>
    some D38
set_option maxRecDepth 100000 in
set_option maxHeartbeats 4000000 in
theorem l_X12_lays_L2 {E : am_E} (hE : am_EH E) {d mc ms : Nat} {o : am_O} {G2 : am_G} {D2 : am_D} (hdp : 1 ≤ d)   : ∀ (n : Nat) (v1 : Int32) (D : am_D) (ex0 : am_D), f_X12_lays_L2  n v1 D = some ex0 → (∀ ex : am_D, ex0 = ex → am_S E mX12_lays d mc ms o G2 D2 0 0 39 [(0, .ref 117)] [] am_G0 ex) → am_S E mX12_lays d mc ms o G2 D2 0 0 2 [(0, .ref 117), (1, .int v1)] [] am_G0 D
  | 0, _, _, _, hf, _ => by
    unfold f_X12_lays_L2 at hf
    cases hf
  | n + 1, v1, D, ex0, hf, hk0 => by
    unfold f_X12_lays_L2 at hf
    refine am_iload_n (am_dec tmX12_lays_0 2 rfl) rfl rfl ?_
    refine am_sipush (v := (1200 : Int32)) (am_dec tmX12_lays_0 3 rfl) (by decide) ?_
    refine am_icmp_ge (tgt := 39) (am_dec tmX12_lays_0 4 rfl) (by decide) (fun c1 => ?_) (fun c1 => ?_)
    · rw [if_pos c1] at hf
      have hf := Option.some.inj hf
      subst hf
      exact am_pick [0] rfl (hk0 _ rfl)
    · rw [if_neg c1] at hf
      refine am_aload_n (am_dec tmX12_lays_0 5 rfl) rfl rfl ?_
      refine am_getR (j := 42) hE (am_dec tmX12_lays_0 6 rfl) sh_117 cf12 (by decide) rfl lf_X12_82 rf_117_42 ?_
      refine am_iload_n (am_dec tmX12_lays_0 7 rfl) rfl rfl ?_
      refine am_aload_n (am_dec tmX12_lays_0 8 rfl) rfl rfl ?_
      refine am_getR (j := 33) hE (am_dec tmX12_lays_0 9 rfl) sh_117 cf12 (by decide) rfl lf_X12_70 rf_117_33 ?_
      refine am_iload_n (am_dec tmX12_lays_0 10 rfl) rfl rfl ?_
      obtain ⟨x2, g3, hf⟩ := am_bd hf
      refine am_iald2 hE (am_dec tmX12_lays_0 11 rfl) sh_221 g3 ?_
      obtain ⟨D4, g5, hf⟩ := am_bd hf
      refine am_iast2 hE (am_dec tmX12_lays_0 12 rfl) sh_1425 g5 ?_
      refine am_aload_n (am_dec tmX12_lays_0 13 rfl) rfl rfl ?_
      refine am_getR (j := 43) hE (am_dec tmX12_lays_0 14 rfl) sh_117 cf12 (by decide) rfl lf_X12_85 rf_117_43 ?_
      refine am_iload_n (am_dec tmX12_lays_0 15 rfl) rfl rfl ?_
      refine am_aload_n (am_dec tmX12_lays_0 16 rfl) rfl rfl ?_
      refine am_getR (j := 34) hE (am_dec tmX12_lays_0 17 rfl) sh_117 cf12 (by decide) rfl lf_X12_73 rf_117_34 ?_
      refine am_iload_n (am_dec tmX12_lays_0 18 rfl) rfl rfl ?_
      obtain ⟨x6, g7, hf⟩ := am_bd hf
      refine am_iald2 hE (am_dec tmX12_lays_0 19 rfl) sh_222 g7 ?_
      obtain ⟨D8, g9, hf⟩ := am_bd hf
      refine am_iast2 hE (am_dec tmX12_lays_0 20 rfl) sh_1426 g9 ?_
      refine am_iinc (v := (1 : Int32)) (lv' := [(0, .ref 117), (1, .int (v1 + (1 : Int32)))]) (am_dec tmX12_lays_0 21 rfl) rfl (by decide) (by decide) rfl ?_
      refine am_goto (tgt := 2) (am_dec tmX12_lays_0 22 rfl) (by decide) ?_
      exact am_pick [0, 1] rfl (l_X12_lays_L2 hE hdp n (v1 + (1 : Int32)) D8 ex0 hf hk0)
set_option maxRecDepth 100000 in
set_option maxHeartbeats 4000000 in
theorem l_X12_lays_L41 {E : am_E} (hE : am_EH E) {d mc ms : Nat} {o : am_O} {G2 : am_G} {D2 : am_D} (hdp : 1 ≤ d)   : ∀ (n : Nat) (v1 : Int32) (D : am_D) (ex0 : am_D), f_X12_lays_L41  n v1 D = some ex0 → (∀ ex : am_D, ex0 = ex → am_S E mX12_lays d mc ms o G2 D2 0 0 65 [(0, .ref 117)] [] am_G0 ex) → am_S E mX12_lays d mc ms o G2 D2 0 0 41 [(0, .ref 117), (1, .int v1)] [] am_G0 D
  | 0, _, _, _, hf, _ => by
    unfold f_X12_lays_L41 at hf
    cases hf
  | n + 1, v1, D, ex0, hf, hk0 => by
    unfold f_X12_lays_L41 at hf
    refine am_iload_n (am_dec tmX12_lays_0 25 rfl) rfl rfl ?_
    refine am_bipush (v := (26 : Int32)) (am_dec tmX12_lays_0 26 rfl) (by decide) ?_
    refine am_icmp_ge (tgt := 65) (am_dec tmX12_lays_0 27 rfl) (by decide) (fun c11 => ?_) (fun c11 => ?_)
    · rw [if_pos c11] at hf
      have hf := Option.some.inj hf
      subst hf
      exact am_pick [0] rfl (hk0 _ rfl)
    · rw [if_neg c11] at hf
      refine am_aload_n (am_dec tmX12_lays_0 28 rfl) rfl rfl ?_
      refine am_getR (j := 44) hE (am_dec tmX12_lays_0 29 rfl) sh_117 cf12 (by decide) rfl lf_X12_88 rf_117_44 ?_
      refine am_iload_n (am_dec tmX12_lays_0 30 rfl) rfl rfl ?_
      refine am_aload_n (am_dec tmX12_lays_0 31 rfl) rfl rfl ?_
      refine am_getR (j := 35) hE (am_dec tmX12_lays_0 32 rfl) sh_117 cf12 (by decide) rfl lf_X12_76 rf_117_35 ?_
      refine am_iload_n (am_dec tmX12_lays_0 33 rfl) rfl rfl ?_
      obtain ⟨x12, g13, hf⟩ := am_bd hf
      refine am_iald2 hE (am_dec tmX12_lays_0 34 rfl) sh_223 g13 ?_
      obtain ⟨D14, g15, hf⟩ := am_bd hf
      refine am_iast2 hE (am_dec tmX12_lays_0 35 rfl) sh_1427 g15 ?_
      refine am_iinc (v := (1 : Int32)) (lv' := [(0, .ref 117), (1, .int (v1 + (1 : Int32)))]) (am_dec tmX12_lays_0 36 rfl) rfl (by decide) (by decide) rfl ?_
      refine am_goto (tgt := 41) (am_dec tmX12_lays_0 37 rfl) (by decide) ?_
      exact am_pick [0, 1] rfl (l_X12_lays_L41 hE hdp n (v1 + (1 : Int32)) D14 ex0 hf hk0)
set_option maxRecDepth 100000 in
set_option maxHeartbeats 4000000 in
theorem l_X12_lays_L77 {E : am_E} (hE : am_EH E) {d mc ms : Nat} {o : am_O} {G2 : am_G} {D2 : am_D} (hdp : 1 ≤ d) {q1 : Int32}  : ∀ (n : Nat) (v2 : Int32) (D : am_D) (ex0 : am_D), f_X12_lays_L77 q1 n v2 D = some ex0 → (∀ ex : am_D, ex0 = ex → am_S E mX12_lays d mc ms o G2 D2 0 0 104 [(0, .ref 117), (1, .int q1)] [] am_G0 ex) → am_S E mX12_lays d mc ms o G2 D2 0 0 77 [(0, .ref 117), (1, .int q1), (2, .int v2)] [] am_G0 D
  | 0, _, _, _, hf, _ => by
    unfold f_X12_lays_L77 at hf
    cases hf
  | n + 1, v2, D, ex0, hf, hk0 => by
    unfold f_X12_lays_L77 at hf
    refine am_iload_n (am_dec tmX12_lays_0 46 rfl) rfl rfl ?_
    refine am_iconst (v := (3 : Int32)) (am_dec tmX12_lays_0 47 rfl) (by decide) ?_
    refine am_icmp_ge (tgt := 104) (am_dec tmX12_lays_0 48 rfl) (by decide) (fun c18 => ?_) (fun c18 => ?_)
    · rw [if_pos c18] at hf
      have hf := Option.some.inj hf
      subst hf
      exact am_pick [0, 1] rfl (hk0 _ rfl)
    · rw [if_neg c18] at hf
      refine am_aload_n (am_dec tmX12_lays_0 49 rfl) rfl rfl ?_
      refine am_getR (j := 45) hE (am_dec tmX12_lays_0 50 rfl) sh_117 cf12 (by decide) rfl lf_X12_91 rf_117_45 ?_
      refine am_iload_n (am_dec tmX12_lays_0 51 rfl) rfl rfl ?_
      obtain ⟨j19, g20, hf⟩ := am_bd hf
      have hj_j19 := (am_gA_lt g20).1
      refine am_aald2 (t := 6) hE (am_dec tmX12_lays_0 52 rfl) sh_1428 (by decide) rfl rfl g20 (rr_1428 hj_j19) ?_
      refine am_iload_n (am_dec tmX12_lays_0 53 rfl) rfl rfl ?_
      refine am_aload_n (am_dec tmX12_lays_0 54 rfl) rfl rfl ?_
      refine am_getR (j := 41) hE (am_dec tmX12_lays_0 55 rfl) sh_117 cf12 (by decide) rfl lf_X12_79 rf_117_41 ?_
      refine am_iload_n (am_dec tmX12_lays_0 56 rfl) rfl rfl ?_
      obtain ⟨j21, g22, hf⟩ := am_bd hf
      have hj_j21 := (am_gA_lt g22).1
      refine am_aald2 (t := 6) hE (am_dec tmX12_lays_0 57 rfl) sh_224 (by decide) rfl rfl g22 (rr_224 hj_j21) ?_
      refine am_iload_n (am_dec tmX12_lays_0 58 rfl) rfl rfl ?_
      obtain ⟨x23, g24, hf⟩ := am_bd hf
      refine am_iald2 hE (am_dec tmX12_lays_0 59 rfl) (sa_224_0 hj_j21) g24 ?_
      obtain ⟨D25, g26, hf⟩ := am_bd hf
      refine am_iast2 hE (am_dec tmX12_lays_1 0 rfl) (sa_1428_0 hj_j19) g26 ?_
      refine am_iinc (v := (1 : Int32)) (lv' := [(0, .ref 117), (1, .int q1), (2, .int (v2 + (1 : Int32)))]) (am_dec tmX12_lays_1 1 rfl) rfl (by decide) (by decide) rfl ?_
      refine am_goto (tgt := 77) (am_dec tmX12_lays_1 2 rfl) (by decide) ?_
      exact am_pick [0, 1, 2] rfl (l_X12_lays_L77 hE hdp n (v2 + (1 : Int32)) D25 ex0 hf hk0)
set_option maxRecDepth 100000 in
set_option maxHeartbeats 4000000 in
theorem l_X12_lays_L67 {E : am_E} (hE : am_EH E) {d mc ms : Nat} {o : am_O} {G2 : am_G} {D2 : am_D} (hdp : 1 ≤ d)   : ∀ (n : Nat) (v1 : Int32) (D : am_D) (ex0 : am_D), f_X12_lays_L67  n v1 D = some ex0 → (∀ ex : am_D, ex0 = ex → am_S E mX12_lays d mc ms o G2 D2 0 0 110 [(0, .ref 117)] [] am_G0 ex) → am_S E mX12_lays d mc ms o G2 D2 0 0 67 [(0, .ref 117), (1, .int v1)] [] am_G0 D
  | 0, _, _, _, hf, _ => by
    unfold f_X12_lays_L67 at hf
    cases hf
  | n + 1, v1, D, ex0, hf, hk0 => by
    unfold f_X12_lays_L67 at hf
    refine am_iload_n (am_dec tmX12_lays_0 40 rfl) rfl rfl ?_
    refine am_aload_n (am_dec tmX12_lays_0 41 rfl) rfl rfl ?_
    refine am_getI (j := 39) hE (am_dec tmX12_lays_0 42 rfl) sh_117 cf12 (by decide) rfl lf_X12_250 ?_
    refine am_icmp_ge (tgt := 110) (am_dec tmX12_lays_0 43 rfl) (by decide) (fun c17 => ?_) (fun c17 => ?_)
    · rw [if_pos c17] at hf
      have hf := Option.some.inj hf
      subst hf
      exact am_pick [0] rfl (hk0 _ rfl)
    · rw [if_neg c17] at hf
      refine am_iconst (v := (0 : Int32)) (am_dec tmX12_lays_0 44 rfl) (by decide) ?_
      refine am_istore_n (lv' := [(0, .ref 117), (1, .int v1), (2, .int (0 : Int32))]) (am_dec tmX12_lays_0 45 rfl) rfl (by decide) rfl ?_
      obtain ⟨e27, g28, hf⟩ := am_bd hf
      refine am_pick [0, 1, 2] rfl (l_X12_lays_L77 hE hdp am_fu _ _ _ g28 (fun ex he => ?_))
      subst he
      refine am_iinc (v := (1 : Int32)) (lv' := [(0, .ref 117), (1, .int (v1 + (1 : Int32)))]) (am_dec tmX12_lays_1 3 rfl) rfl (by decide) (by decide) rfl ?_
      refine am_goto (tgt := 67) (am_dec tmX12_lays_1 4 rfl) (by decide) ?_
      exact am_pick [0, 1] rfl (l_X12_lays_L67 hE hdp n (v1 + (1 : Int32)) e27 ex0 hf hk0)
set_option maxRecDepth 100000 in
set_option maxHeartbeats 4000000 in
theorem c_X12_lays {E : am_E} (hE : am_EH E) {D : am_D} {r : am_D}  (hf : f_X12_lays D = some r) : am_C E mX12_lays 1 0 0 [.ref 117] am_G0 D (.inl none) am_G0 r := by
  refine am_C_of (by decide +kernel) (Nat.le_of_ble_eq_true rfl) ?_
  change am_S E mX12_lays 1 0 0 (.inl none) am_G0 r 0 0 0 [(0, .ref 117)] [] am_G0 D
  unfold f_X12_lays at hf
  refine am_iconst (v := (0 : Int32)) (am_dec tmX12_lays_0 0 rfl) (by decide) ?_
  refine am_istore_n (lv' := [(0, .ref 117), (1, .int (0 : Int32))]) (am_dec tmX12_lays_0 1 rfl) rfl (by decide) rfl ?_
  obtain ⟨e10, g44, hf⟩ := am_bd hf
  refine am_pick [0, 1] rfl (l_X12_lays_L2 hE (Nat.le_refl _) am_fu _ _ _ g44 (fun ex he => ?_))
  subst he
  refine am_iconst (v := (0 : Int32)) (am_dec tmX12_lays_0 23 rfl) (by decide) ?_
  refine am_istore_n (lv' := [(0, .ref 117), (1, .int (0 : Int32))]) (am_dec tmX12_lays_0 24 rfl) rfl (by decide) rfl ?_
  obtain ⟨e16, g43, hf⟩ := am_bd hf
  refine am_pick [0, 1] rfl (l_X12_lays_L41 hE (Nat.le_refl _) am_fu _ _ _ g43 (fun ex he => ?_))
  subst he
  refine am_iconst (v := (0 : Int32)) (am_dec tmX12_lays_0 38 rfl) (by decide) ?_
  refine am_istore_n (lv' := [(0, .ref 117), (1, .int (0 : Int32))]) (am_dec tmX12_lays_0 39 rfl) rfl (by decide) rfl ?_
  obtain ⟨e29, g42, hf⟩ := am_bd hf
  refine am_pick [0, 1] rfl (l_X12_lays_L67 hE (Nat.le_refl _) am_fu _ _ _ g42 (fun ex he => ?_))
  subst he
  refine am_aload_n (am_dec tmX12_lays_1 5 rfl) rfl rfl ?_
  refine am_aload_n (am_dec tmX12_lays_1 6 rfl) rfl rfl ?_
  refine am_getI (j := 36) hE (am_dec tmX12_lays_1 7 rfl) sh_117 cf12 (by decide) rfl lf_X12_253 ?_
  obtain ⟨D30, g31, hf⟩ := am_bd hf
  refine am_putI2 (j := 46) hE (am_dec tmX12_lays_1 8 rfl) sh_117 cf12 (by decide) rfl lf_X12_256 rfl rfl rfl g31 ?_
  refine am_aload_n (am_dec tmX12_lays_1 9 rfl) rfl rfl ?_
  refine am_aload_n (am_dec tmX12_lays_1 10 rfl) rfl rfl ?_
  refine am_getI (j := 37) hE (am_dec tmX12_lays_1 11 rfl) sh_117 cf12 (by decide) rfl lf_X12_220 ?_
  obtain ⟨D32, g33, hf⟩ := am_bd hf
  refine am_putI2 (j := 47) hE (am_dec tmX12_lays_1 12 rfl) sh_117 cf12 (by decide) rfl lf_X12_259 rfl rfl rfl g33 ?_
  refine am_aload_n (am_dec tmX12_lays_1 13 rfl) rfl rfl ?_
  refine am_aload_n (am_dec tmX12_lays_1 14 rfl) rfl rfl ?_
  refine am_getI (j := 38) hE (am_dec tmX12_lays_1 15 rfl) sh_117 cf12 (by decide) rfl lf_X12_262 ?_
  obtain ⟨D34, g35, hf⟩ := am_bd hf
  refine am_putI2 (j := 48) hE (am_dec tmX12_lays_1 16 rfl) sh_117 cf12 (by decide) rfl lf_X12_265 rfl rfl rfl g35 ?_
  refine am_aload_n (am_dec tmX12_lays_1 17 rfl) rfl rfl ?_
  refine am_aload_n (am_dec tmX12_lays_1 18 rfl) rfl rfl ?_
  refine am_getI (j := 39) hE (am_dec tmX12_lays_1 19 rfl) sh_117 cf12 (by decide) rfl lf_X12_250 ?_
  obtain ⟨D36, g37, hf⟩ := am_bd hf
  refine am_putI2 (j := 49) hE (am_dec tmX12_lays_1 20 rfl) sh_117 cf12 (by decide) rfl lf_X12_268 rfl rfl rfl g37 ?_
  refine am_aload_n (am_dec tmX12_lays_1 21 rfl) rfl rfl ?_
  refine am_aload_n (am_dec tmX12_lays_1 22 rfl) rfl rfl ?_
  refine am_getI (j := 40) hE (am_dec tmX12_lays_1 23 rfl) sh_117 cf12 (by decide) rfl lf_X12_271 ?_
  obtain ⟨z40, g41, hf⟩ := am_bd hf
  obtain ⟨D38, g39, hf⟩ := am_bd hf
  refine am_putI2 (j := 50) hE (am_dec tmX12_lays_1 24 rfl) sh_117 cf12 (by decide) rfl lf_X12_275 rfl (am_zb_eq g41).2.1 (am_zb_eq g41).2.2 g39 ?_
  have hf := Option.some.inj hf
  subst hf
  exact am_vret (am_dec tmX12_lays_1 25 rfl) rfl (Nat.zero_le _) (Nat.zero_le _)
def f_X12_laysBack_L2  : Nat → Int32 → am_D → Option (am_D)
  | 0, _, _ => none
  | n + 1, v1, D =>
    if (1200 : Int32) ≤ v1 then
    some (D)
    else
    (am_gI D 1425 1200 v1).bind fun x2 =>
    (am_pI D 221 1200 v1 x2).bind fun D4 =>
    (am_gI D4 1426 1200 v1).bind fun x6 =>
    (am_pI D4 222 1200 v1 x6).bind fun D8 =>
    f_X12_laysBack_L2 n (v1 + (1 : Int32)) D8
def f_X12_laysBack_L41  : Nat → Int32 → am_D → Option (am_D)
  | 0, _, _ => none
  | n + 1, v1, D =>
    if (26 : Int32) ≤ v1 then
    some (D)
    else
    (am_gI D 1427 26 v1).bind fun x12 =>
    (am_pI D 223 26 v1 x12).bind fun D14 =>
    f_X12_laysBack_L41 n (v1 + (1 : Int32)) D14
def f_X12_laysBack_L77 (q1 : Int32) : Nat → Int32 → am_D → Option (am_D)
  | 0, _, _ => none
  | n + 1, v2, D =>
    if (3 : Int32) ≤ v2 then
    some (D)
    else
    (am_gA 1200 q1).bind fun j19 =>
    (am_gA 1200 q1).bind fun j21 =>
    (am_gI D (1429 + j21) 3 v2).bind fun x23 =>
    (am_pI D (225 + j19) 3 v2 x23).bind fun D25 =>
    f_X12_laysBack_L77 q1 n (v2 + (1 : Int32)) D25
def f_X12_laysBack_L67  : Nat → Int32 → am_D → Option (am_D)
  | 0, _, _ => none
  | n + 1, v1, D =>
    if (D.1 117 49) ≤ v1 then
    some (D)
    else
    (f_X12_laysBack_L77 v1 am_fu (0 : Int32) D).bind fun e27 =>
    f_X12_laysBack_L67 n (v1 + (1 : Int32)) e27
def f_X12_laysBack (D : am_D) : Option (am_D) :=
    (f_X12_laysBack_L2 am_fu (0 : Int32) D).bind fun e10 =>
    (f_X12_laysBack_L41 am_fu (0 : Int32) e10).bind fun e16 =>
    (f_X12_laysBack_L67 am_fu (0 : Int32) e16).bind fun e29 =>
    (some (am_wI e29 117 36 (e29.1 117 46))).bind fun D30 =>
    (some (am_wI D30 117 37 (D30.1 117 47))).bind fun D32 =>
    (some (am_wI D32 117 38 (D32.1 117 48))).bind fun D34 =>
    (some (am_wI D34 117 39 (D34.1 117 49))).bind fun D36 =>
    (am_zb (D36.1 117 50)).bind fun z40 =>
    (some (am_wI D36 117 40 (D36.1 117 50))).bind fun D38 =>
    some D38
set_option maxRecDepth 100000 in
set_option maxHeartbeats 4000000 in
theorem l_X12_laysBack_L2 {E : am_E} (hE : am_EH E) {d mc ms : Nat} {o : am_O} {G2 : am_G} {D2 : am_D} (hdp : 1 ≤ d)   : ∀ (n : Nat) (v1 : Int32) (D : am_D) (ex0 : am_D), f_X12_laysBack_L2  n v1 D = some ex0 → (∀ ex : am_D, ex0 = ex → am_S E mX12_laysBack d mc ms o G2 D2 0 0 39 [(0, .ref 117)] [] am_G0 ex) → am_S E mX12_laysBack d mc ms o G2 D2 0 0 2 [(0, .ref 117), (1, .int v1)] [] am_G0 D
  | 0, _, _, _, hf, _ => by
    unfold f_X12_laysBack_L2 at hf
    cases hf
  | n + 1, v1, D, ex0, hf, hk0 => by
    unfold f_X12_laysBack_L2 at hf
    refine am_iload_n (am_dec tmX12_laysBack_0 2 rfl) rfl rfl ?_
    refine am_sipush (v := (1200 : Int32)) (am_dec tmX12_laysBack_0 3 rfl) (by decide) ?_
    refine am_icmp_ge (tgt := 39) (am_dec tmX12_laysBack_0 4 rfl) (by decide) (fun c1 => ?_) (fun c1 => ?_)
    · rw [if_pos c1] at hf
      have hf := Option.some.inj hf
      subst hf
      exact am_pick [0] rfl (hk0 _ rfl)
    · rw [if_neg c1] at hf
      refine am_aload_n (am_dec tmX12_laysBack_0 5 rfl) rfl rfl ?_
      refine am_getR (j := 33) hE (am_dec tmX12_laysBack_0 6 rfl) sh_117 cf12 (by decide) rfl lf_X12_70 rf_117_33 ?_
      refine am_iload_n (am_dec tmX12_laysBack_0 7 rfl) rfl rfl ?_
      refine am_aload_n (am_dec tmX12_laysBack_0 8 rfl) rfl rfl ?_
      refine am_getR (j := 42) hE (am_dec tmX12_laysBack_0 9 rfl) sh_117 cf12 (by decide) rfl lf_X12_82 rf_117_42 ?_
      refine am_iload_n (am_dec tmX12_laysBack_0 10 rfl) rfl rfl ?_
      obtain ⟨x2, g3, hf⟩ := am_bd hf
      refine am_iald2 hE (am_dec tmX12_laysBack_0 11 rfl) sh_1425 g3 ?_
      obtain ⟨D4, g5, hf⟩ := am_bd hf
      refine am_iast2 hE (am_dec tmX12_laysBack_0 12 rfl) sh_221 g5 ?_
      refine am_aload_n (am_dec tmX12_laysBack_0 13 rfl) rfl rfl ?_
      refine am_getR (j := 34) hE (am_dec tmX12_laysBack_0 14 rfl) sh_117 cf12 (by decide) rfl lf_X12_73 rf_117_34 ?_
      refine am_iload_n (am_dec tmX12_laysBack_0 15 rfl) rfl rfl ?_
      refine am_aload_n (am_dec tmX12_laysBack_0 16 rfl) rfl rfl ?_
      refine am_getR (j := 43) hE (am_dec tmX12_laysBack_0 17 rfl) sh_117 cf12 (by decide) rfl lf_X12_85 rf_117_43 ?_
      refine am_iload_n (am_dec tmX12_laysBack_0 18 rfl) rfl rfl ?_
      obtain ⟨x6, g7, hf⟩ := am_bd hf
      refine am_iald2 hE (am_dec tmX12_laysBack_0 19 rfl) sh_1426 g7 ?_
      obtain ⟨D8, g9, hf⟩ := am_bd hf
      refine am_iast2 hE (am_dec tmX12_laysBack_0 20 rfl) sh_222 g9 ?_
      refine am_iinc (v := (1 : Int32)) (lv' := [(0, .ref 117), (1, .int (v1 + (1 : Int32)))]) (am_dec tmX12_laysBack_0 21 rfl) rfl (by decide) (by decide) rfl ?_
      refine am_goto (tgt := 2) (am_dec tmX12_laysBack_0 22 rfl) (by decide) ?_
      exact am_pick [0, 1] rfl (l_X12_laysBack_L2 hE hdp n (v1 + (1 : Int32)) D8 ex0 hf hk0)
set_option maxRecDepth 100000 in
set_option maxHeartbeats 4000000 in
theorem l_X12_laysBack_L41 {E : am_E} (hE : am_EH E) {d mc ms : Nat} {o : am_O} {G2 : am_G} {D2 : am_D} (hdp : 1 ≤ d)   : ∀ (n : Nat) (v1 : Int32) (D : am_D) (ex0 : am_D), f_X12_laysBack_L41  n v1 D = some ex0 → (∀ ex : am_D, ex0 = ex → am_S E mX12_laysBack d mc ms o G2 D2 0 0 65 [(0, .ref 117)] [] am_G0 ex) → am_S E mX12_laysBack d mc ms o G2 D2 0 0 41 [(0, .ref 117), (1, .int v1)] [] am_G0 D
  | 0, _, _, _, hf, _ => by
    unfold f_X12_laysBack_L41 at hf
    cases hf
  | n + 1, v1, D, ex0, hf, hk0 => by
    unfold f_X12_laysBack_L41 at hf
    refine am_iload_n (am_dec tmX12_laysBack_0 25 rfl) rfl rfl ?_
    refine am_bipush (v := (26 : Int32)) (am_dec tmX12_laysBack_0 26 rfl) (by decide) ?_
    refine am_icmp_ge (tgt := 65) (am_dec tmX12_laysBack_0 27 rfl) (by decide) (fun c11 => ?_) (fun c11 => ?_)
    · rw [if_pos c11] at hf
      have hf := Option.some.inj hf
      subst hf
      exact am_pick [0] rfl (hk0 _ rfl)
    · rw [if_neg c11] at hf
      refine am_aload_n (am_dec tmX12_laysBack_0 28 rfl) rfl rfl ?_
      refine am_getR (j := 35) hE (am_dec tmX12_laysBack_0 29 rfl) sh_117 cf12 (by decide) rfl lf_X12_76 rf_117_35 ?_
      refine am_iload_n (am_dec tmX12_laysBack_0 30 rfl) rfl rfl ?_
      refine am_aload_n (am_dec tmX12_laysBack_0 31 rfl) rfl rfl ?_
      refine am_getR (j := 44) hE (am_dec tmX12_laysBack_0 32 rfl) sh_117 cf12 (by decide) rfl lf_X12_88 rf_117_44 ?_
      refine am_iload_n (am_dec tmX12_laysBack_0 33 rfl) rfl rfl ?_
      obtain ⟨x12, g13, hf⟩ := am_bd hf
      refine am_iald2 hE (am_dec tmX12_laysBack_0 34 rfl) sh_1427 g13 ?_
      obtain ⟨D14, g15, hf⟩ := am_bd hf
      refine am_iast2 hE (am_dec tmX12_laysBack_0 35 rfl) sh_223 g15 ?_
      refine am_iinc (v := (1 : Int32)) (lv' := [(0, .ref 117), (1, .int (v1 + (1 : Int32)))]) (am_dec tmX12_laysBack_0 36 rfl) rfl (by decide) (by decide) rfl ?_
      refine am_goto (tgt := 41) (am_dec tmX12_laysBack_0 37 rfl) (by decide) ?_
      exact am_pick [0, 1] rfl (l_X12_laysBack_L41 hE hdp n (v1 + (1 : Int32)) D14 ex0 hf hk0)
set_option maxRecDepth 100000 in
set_option maxHeartbeats 4000000 in
theorem l_X12_laysBack_L77 {E : am_E} (hE : am_EH E) {d mc ms : Nat} {o : am_O} {G2 : am_G} {D2 : am_D} (hdp : 1 ≤ d) {q1 : Int32}  : ∀ (n : Nat) (v2 : Int32) (D : am_D) (ex0 : am_D), f_X12_laysBack_L77 q1 n v2 D = some ex0 → (∀ ex : am_D, ex0 = ex → am_S E mX12_laysBack d mc ms o G2 D2 0 0 104 [(0, .ref 117), (1, .int q1)] [] am_G0 ex) → am_S E mX12_laysBack d mc ms o G2 D2 0 0 77 [(0, .ref 117), (1, .int q1), (2, .int v2)] [] am_G0 D
  | 0, _, _, _, hf, _ => by
    unfold f_X12_laysBack_L77 at hf
    cases hf
  | n + 1, v2, D, ex0, hf, hk0 => by
    unfold f_X12_laysBack_L77 at hf
    refine am_iload_n (am_dec tmX12_laysBack_0 46 rfl) rfl rfl ?_
    refine am_iconst (v := (3 : Int32)) (am_dec tmX12_laysBack_0 47 rfl) (by decide) ?_
    refine am_icmp_ge (tgt := 104) (am_dec tmX12_laysBack_0 48 rfl) (by decide) (fun c18 => ?_) (fun c18 => ?_)
    · rw [if_pos c18] at hf
      have hf := Option.some.inj hf
      subst hf
      exact am_pick [0, 1] rfl (hk0 _ rfl)
    · rw [if_neg c18] at hf
      refine am_aload_n (am_dec tmX12_laysBack_0 49 rfl) rfl rfl ?_
      refine am_getR (j := 41) hE (am_dec tmX12_laysBack_0 50 rfl) sh_117 cf12 (by decide) rfl lf_X12_79 rf_117_41 ?_
      refine am_iload_n (am_dec tmX12_laysBack_0 51 rfl) rfl rfl ?_
      obtain ⟨j19, g20, hf⟩ := am_bd hf
      have hj_j19 := (am_gA_lt g20).1
      refine am_aald2 (t := 6) hE (am_dec tmX12_laysBack_0 52 rfl) sh_224 (by decide) rfl rfl g20 (rr_224 hj_j19) ?_
      refine am_iload_n (am_dec tmX12_laysBack_0 53 rfl) rfl rfl ?_
      refine am_aload_n (am_dec tmX12_laysBack_0 54 rfl) rfl rfl ?_
      refine am_getR (j := 45) hE (am_dec tmX12_laysBack_0 55 rfl) sh_117 cf12 (by decide) rfl lf_X12_91 rf_117_45 ?_
      refine am_iload_n (am_dec tmX12_laysBack_0 56 rfl) rfl rfl ?_
      obtain ⟨j21, g22, hf⟩ := am_bd hf
      have hj_j21 := (am_gA_lt g22).1
      refine am_aald2 (t := 6) hE (am_dec tmX12_laysBack_0 57 rfl) sh_1428 (by decide) rfl rfl g22 (rr_1428 hj_j21) ?_
      refine am_iload_n (am_dec tmX12_laysBack_0 58 rfl) rfl rfl ?_
      obtain ⟨x23, g24, hf⟩ := am_bd hf
      refine am_iald2 hE (am_dec tmX12_laysBack_0 59 rfl) (sa_1428_0 hj_j21) g24 ?_
      obtain ⟨D25, g26, hf⟩ := am_bd hf
      refine am_iast2 hE (am_dec tmX12_laysBack_1 0 rfl) (sa_224_0 hj_j19) g26 ?_
      refine am_iinc (v := (1 : Int32)) (lv' := [(0, .ref 117), (1, .int q1), (2, .int (v2 + (1 : Int32)))]) (am_dec tmX12_laysBack_1 1 rfl) rfl (by decide) (by decide) rfl ?_
      refine am_goto (tgt := 77) (am_dec tmX12_laysBack_1 2 rfl) (by decide) ?_
      exact am_pick [0, 1, 2] rfl (l_X12_laysBack_L77 hE hdp n (v2 + (1 : Int32)) D25 ex0 hf hk0)
set_option maxRecDepth 100000 in
set_option maxHeartbeats 4000000 in
theorem l_X12_laysBack_L67 {E : am_E} (hE : am_EH E) {d mc ms : Nat} {o : am_O} {G2 : am_G} {D2 : am_D} (hdp : 1 ≤ d)   : ∀ (n : Nat) (v1 : Int32) (D : am_D) (ex0 : am_D), f_X12_laysBack_L67  n v1 D = some ex0 → (∀ ex : am_D, ex0 = ex → am_S E mX12_laysBack d mc ms o G2 D2 0 0 110 [(0, .ref 117)] [] am_G0 ex) → am_S E mX12_laysBack d mc ms o G2 D2 0 0 67 [(0, .ref 117), (1, .int v1)] [] am_G0 D
  | 0, _, _, _, hf, _ => by
    unfold f_X12_laysBack_L67 at hf
    cases hf
  | n + 1, v1, D, ex0, hf, hk0 => by
    unfold f_X12_laysBack_L67 at hf
    refine am_iload_n (am_dec tmX12_laysBack_0 40 rfl) rfl rfl ?_
    refine am_aload_n (am_dec tmX12_laysBack_0 41 rfl) rfl rfl ?_
    refine am_getI (j := 49) hE (am_dec tmX12_laysBack_0 42 rfl) sh_117 cf12 (by decide) rfl lf_X12_268 ?_
    refine am_icmp_ge (tgt := 110) (am_dec tmX12_laysBack_0 43 rfl) (by decide) (fun c17 => ?_) (fun c17 => ?_)
    · rw [if_pos c17] at hf
      have hf := Option.some.inj hf
      subst hf
      exact am_pick [0] rfl (hk0 _ rfl)
    · rw [if_neg c17] at hf
      refine am_iconst (v := (0 : Int32)) (am_dec tmX12_laysBack_0 44 rfl) (by decide) ?_
      refine am_istore_n (lv' := [(0, .ref 117), (1, .int v1), (2, .int (0 : Int32))]) (am_dec tmX12_laysBack_0 45 rfl) rfl (by decide) rfl ?_
      obtain ⟨e27, g28, hf⟩ := am_bd hf
      refine am_pick [0, 1, 2] rfl (l_X12_laysBack_L77 hE hdp am_fu _ _ _ g28 (fun ex he => ?_))
      subst he
      refine am_iinc (v := (1 : Int32)) (lv' := [(0, .ref 117), (1, .int (v1 + (1 : Int32)))]) (am_dec tmX12_laysBack_1 3 rfl) rfl (by decide) (by decide) rfl ?_
      refine am_goto (tgt := 67) (am_dec tmX12_laysBack_1 4 rfl) (by decide) ?_
      exact am_pick [0, 1] rfl (l_X12_laysBack_L67 hE hdp n (v1 + (1 : Int32)) e27 ex0 hf hk0)
set_option maxRecDepth 100000 in
set_option maxHeartbeats 4000000 in
theorem c_X12_laysBack {E : am_E} (hE : am_EH E) {D : am_D} {r : am_D}  (hf : f_X12_laysBack D = some r) : am_C E mX12_laysBack 1 0 0 [.ref 117] am_G0 D (.inl none) am_G0 r := by
  refine am_C_of (by decide +kernel) (Nat.le_of_ble_eq_true rfl) ?_
  change am_S E mX12_laysBack 1 0 0 (.inl none) am_G0 r 0 0 0 [(0, .ref 117)] [] am_G0 D
  unfold f_X12_laysBack at hf
  refine am_iconst (v := (0 : Int32)) (am_dec tmX12_laysBack_0 0 rfl) (by decide) ?_
  refine am_istore_n (lv' := [(0, .ref 117), (1, .int (0 : Int32))]) (am_dec tmX12_laysBack_0 1 rfl) rfl (by decide) rfl ?_
  obtain ⟨e10, g44, hf⟩ := am_bd hf
  refine am_pick [0, 1] rfl (l_X12_laysBack_L2 hE (Nat.le_refl _) am_fu _ _ _ g44 (fun ex he => ?_))
  subst he
  refine am_iconst (v := (0 : Int32)) (am_dec tmX12_laysBack_0 23 rfl) (by decide) ?_
  refine am_istore_n (lv' := [(0, .ref 117), (1, .int (0 : Int32))]) (am_dec tmX12_laysBack_0 24 rfl) rfl (by decide) rfl ?_
  obtain ⟨e16, g43, hf⟩ := am_bd hf
  refine am_pick [0, 1] rfl (l_X12_laysBack_L41 hE (Nat.le_refl _) am_fu _ _ _ g43 (fun ex he => ?_))
  subst he
  refine am_iconst (v := (0 : Int32)) (am_dec tmX12_laysBack_0 38 rfl) (by decide) ?_
  refine am_istore_n (lv' := [(0, .ref 117), (1, .int (0 : Int32))]) (am_dec tmX12_laysBack_0 39 rfl) rfl (by decide) rfl ?_
  obtain ⟨e29, g42, hf⟩ := am_bd hf
  refine am_pick [0, 1] rfl (l_X12_laysBack_L67 hE (Nat.le_refl _) am_fu _ _ _ g42 (fun ex he => ?_))
  subst he
  refine am_aload_n (am_dec tmX12_laysBack_1 5 rfl) rfl rfl ?_
  refine am_aload_n (am_dec tmX12_laysBack_1 6 rfl) rfl rfl ?_
  refine am_getI (j := 46) hE (am_dec tmX12_laysBack_1 7 rfl) sh_117 cf12 (by decide) rfl lf_X12_256 ?_
  obtain ⟨D30, g31, hf⟩ := am_bd hf
  refine am_putI2 (j := 36) hE (am_dec tmX12_laysBack_1 8 rfl) sh_117 cf12 (by decide) rfl lf_X12_253 rfl rfl rfl g31 ?_
  refine am_aload_n (am_dec tmX12_laysBack_1 9 rfl) rfl rfl ?_
  refine am_aload_n (am_dec tmX12_laysBack_1 10 rfl) rfl rfl ?_
  refine am_getI (j := 47) hE (am_dec tmX12_laysBack_1 11 rfl) sh_117 cf12 (by decide) rfl lf_X12_259 ?_
  obtain ⟨D32, g33, hf⟩ := am_bd hf
  refine am_putI2 (j := 37) hE (am_dec tmX12_laysBack_1 12 rfl) sh_117 cf12 (by decide) rfl lf_X12_220 rfl rfl rfl g33 ?_
  refine am_aload_n (am_dec tmX12_laysBack_1 13 rfl) rfl rfl ?_
  refine am_aload_n (am_dec tmX12_laysBack_1 14 rfl) rfl rfl ?_
  refine am_getI (j := 48) hE (am_dec tmX12_laysBack_1 15 rfl) sh_117 cf12 (by decide) rfl lf_X12_265 ?_
  obtain ⟨D34, g35, hf⟩ := am_bd hf
  refine am_putI2 (j := 38) hE (am_dec tmX12_laysBack_1 16 rfl) sh_117 cf12 (by decide) rfl lf_X12_262 rfl rfl rfl g35 ?_
  refine am_aload_n (am_dec tmX12_laysBack_1 17 rfl) rfl rfl ?_
  refine am_aload_n (am_dec tmX12_laysBack_1 18 rfl) rfl rfl ?_
  refine am_getI (j := 49) hE (am_dec tmX12_laysBack_1 19 rfl) sh_117 cf12 (by decide) rfl lf_X12_268 ?_
  obtain ⟨D36, g37, hf⟩ := am_bd hf
  refine am_putI2 (j := 39) hE (am_dec tmX12_laysBack_1 20 rfl) sh_117 cf12 (by decide) rfl lf_X12_250 rfl rfl rfl g37 ?_
  refine am_aload_n (am_dec tmX12_laysBack_1 21 rfl) rfl rfl ?_
  refine am_aload_n (am_dec tmX12_laysBack_1 22 rfl) rfl rfl ?_
  refine am_getI (j := 50) hE (am_dec tmX12_laysBack_1 23 rfl) sh_117 cf12 (by decide) rfl lf_X12_275 ?_
  obtain ⟨z40, g41, hf⟩ := am_bd hf
  obtain ⟨D38, g39, hf⟩ := am_bd hf
  refine am_putI2 (j := 40) hE (am_dec tmX12_laysBack_1 24 rfl) sh_117 cf12 (by decide) rfl lf_X12_271 rfl (am_zb_eq g41).2.1 (am_zb_eq g41).2.2 g39 ?_
  have hf := Option.some.inj hf
  subst hf
  exact am_vret (am_dec tmX12_laysBack_1 25 rfl) rfl (Nat.zero_le _) (Nat.zero_le _)
def f_X12_place (p1 : Int32) (p2 : Int32) (D : am_D) : Option ((Int32 × am_D)) :=
    (some (am_wI D 117 0 (0 : Int32))).bind fun D1 =>
    (f_X12_isMap p1 D1).bind fun x4 =>
    (if x4 = 0 then
    some ((1 : Int32))
    else
    some ((0 : Int32))).bind fun w7 =>
    (f_X12_bad w7 (1 : Int32) D1).bind fun x9 =>
    if x9.1 = 0 then
    (f_X12_lays x9.2).bind fun x12 =>
    (f_X12_takes p1 x12).bind fun x14 =>
    (f_X12_placeNow p2 x14).bind fun x16 =>
    (f_X12_laysBack x14).bind fun x18 =>
    some (x16, x18)
    else
    some ((0 : Int32), x9.2)
set_option maxRecDepth 100000 in
set_option maxHeartbeats 4000000 in
theorem c_X12_place {E : am_E} (hE : am_EH E) {p1 : Int32} {p2 : Int32} {D : am_D} {r : (Int32 × am_D)}  (hf : f_X12_place p1 p2 D = some r) : am_C E mX12_place 3 0 0 [.ref 117, .int p1, .int p2] am_G0 D (.inl (some (.int r.1))) am_G0 r.2 := by
  refine am_C_of (by decide +kernel) (Nat.le_of_ble_eq_true rfl) ?_
  change am_S E mX12_place 3 0 0 (.inl (some (.int r.1))) am_G0 r.2 0 0 0 [(0, .ref 117), (1, .int p1), (2, .int p2)] [] am_G0 D
  unfold f_X12_place at hf
  refine am_aload_n (am_dec tmX12_place 0 rfl) rfl rfl ?_
  refine am_iconst (v := (0 : Int32)) (am_dec tmX12_place 1 rfl) (by decide) ?_
  obtain ⟨D1, g2, hf⟩ := am_bd hf
  refine am_putI2 (j := 0) hE (am_dec tmX12_place 2 rfl) sh_117 cf12 (by decide) rfl lf_X12_110 rfl rfl rfl g2 ?_
  refine am_aload_n (am_dec tmX12_place 3 rfl) rfl rfl ?_
  refine am_aload_n (am_dec tmX12_place 4 rfl) rfl rfl ?_
  refine am_iload_n (am_dec tmX12_place 5 rfl) rfl rfl ?_
  obtain ⟨x4, g3, hf⟩ := am_bd hf
  refine am_callV1 (As := [.int p1]) (st := [.ref 117]) hE (am_dec tmX12_place 6 rfl) ok_X12_isMap rfl lm_X12_229 in_X12_isMap se_X12_isMap sh_117 cf12 (c_X12_isMap hE g3) rfl (by decide) (Nat.le_of_ble_eq_true rfl) (Nat.zero_le _) (Nat.zero_le _) rfl ?_
  obtain ⟨w7, g19, hf⟩ := am_bd hf
  have key6 : am_S E mX12_place 3 0 0 (.inl (some (.int r.1))) am_G0 r.2 0 0 19 [(0, .ref 117), (1, .int p1), (2, .int p2)] [.int w7, .ref 117] am_G0 D1 := by
    refine am_iconst (v := (1 : Int32)) (am_dec tmX12_place 11 rfl) (by decide) ?_
    obtain ⟨x9, g8, hf⟩ := am_bd hf
    refine am_callV1 (As := [.int w7, .int (1 : Int32)]) (st := []) hE (am_dec tmX12_place 12 rfl) ok_X12_bad rfl lm_X12_191 in_X12_bad se_X12_bad sh_117 cf12 (c_X12_bad hE g8) rfl (by decide) (Nat.le_of_ble_eq_true rfl) (Nat.zero_le _) (Nat.zero_le _) rfl ?_
    refine am_if_eq (tgt := 28) (am_dec tmX12_place 13 rfl) (by decide) (fun c10 => ?_) (fun c10 => ?_)
    · rw [if_pos c10] at hf
      refine am_aload_n (am_dec tmX12_place 16 rfl) rfl rfl ?_
      obtain ⟨x12, g11, hf⟩ := am_bd hf
      refine am_callV0 (As := []) (st := []) hE (am_dec tmX12_place 17 rfl) ok_X12_lays rfl lm_X12_238 in_X12_lays se_X12_lays sh_117 cf12 (c_X12_lays hE g11) rfl (by decide) (Nat.le_of_ble_eq_true rfl) (Nat.zero_le _) (Nat.zero_le _) rfl ?_
      refine am_aload_n (am_dec tmX12_place 18 rfl) rfl rfl ?_
      refine am_iload_n (am_dec tmX12_place 19 rfl) rfl rfl ?_
      obtain ⟨x14, g13, hf⟩ := am_bd hf
      refine am_callV0 (As := [.int p1]) (st := []) hE (am_dec tmX12_place 20 rfl) ok_X12_takes rfl lm_X12_241 in_X12_takes se_X12_takes sh_117 cf12 (c_X12_takes hE g13) rfl (by decide) (Nat.le_of_ble_eq_true rfl) (Nat.zero_le _) (Nat.zero_le _) rfl ?_
      refine am_aload_n (am_dec tmX12_place 21 rfl) rfl rfl ?_
      refine am_iload_n (am_dec tmX12_place 22 rfl) rfl rfl ?_
      obtain ⟨x16, g15, hf⟩ := am_bd hf
      refine am_callV1 (As := [.int p2]) (st := []) hE (am_dec tmX12_place 23 rfl) ok_X12_placeNow rfl lm_X12_226 in_X12_placeNow se_X12_placeNow sh_117 cf12 (c_X12_placeNow hE g15) rfl (by decide) (Nat.le_of_ble_eq_true rfl) (Nat.zero_le _) (Nat.zero_le _) rfl ?_
      refine am_istore_n (lv' := [(0, .ref 117), (1, .int p1), (2, .int p2), (3, .int x16)]) (am_dec tmX12_place 24 rfl) rfl (by decide) rfl ?_
      refine am_aload_n (am_dec tmX12_place 25 rfl) rfl rfl ?_
      obtain ⟨x18, g17, hf⟩ := am_bd hf
      refine am_callV0 (As := []) (st := []) hE (am_dec tmX12_place 26 rfl) ok_X12_laysBack rfl lm_X12_244 in_X12_laysBack se_X12_laysBack sh_117 cf12 (c_X12_laysBack hE g17) rfl (by decide) (Nat.le_of_ble_eq_true rfl) (Nat.zero_le _) (Nat.zero_le _) rfl ?_
      refine am_iload_n (am_dec tmX12_place 27 rfl) rfl rfl ?_
      have hf := Option.some.inj hf
      subst hf
      exact am_iret (am_dec tmX12_place 28 rfl) rfl (Nat.zero_le _) (Nat.zero_le _)
    · rw [if_neg c10] at hf
      refine am_iconst (v := (0 : Int32)) (am_dec tmX12_place 14 rfl) (by decide) ?_
      have hf := Option.some.inj hf
      subst hf
      exact am_iret (am_dec tmX12_place 15 rfl) rfl (Nat.zero_le _) (Nat.zero_le _)
  replace hf := g19
  refine am_if_ne (tgt := 18) (am_dec tmX12_place 7 rfl) (by decide) (fun c5 => ?_) (fun c5 => ?_)
  · rw [if_neg c5] at hf
    refine am_iconst (v := (0 : Int32)) (am_dec tmX12_place 10 rfl) (by decide) ?_
    have hf := Option.some.inj hf
    subst hf
    exact am_pick [0, 1, 2] rfl key6
  · rw [if_pos c5] at hf
    refine am_iconst (v := (1 : Int32)) (am_dec tmX12_place 8 rfl) (by decide) ?_
    refine am_goto (tgt := 19) (am_dec tmX12_place 9 rfl) (by decide) ?_
    have hf := Option.some.inj hf
    subst hf
    exact am_pick [0, 1, 2] rfl key6
def f_X12_where (p1 : Int32) (p2 : Int32) (D : am_D) : Option ((Int32 × am_D)) :=
    (some (am_wI D 117 0 (0 : Int32))).bind fun D1 =>
    (f_X12_isMap p1 D1).bind fun x4 =>
    (if x4 = 0 then
    some ((1 : Int32))
    else
    some ((0 : Int32))).bind fun w7 =>
    (f_X12_bad w7 (1 : Int32) D1).bind fun x9 =>
    if x9.1 = 0 then
    (f_X12_lays x9.2).bind fun x12 =>
    (f_X12_takes p1 x12).bind fun x14 =>
    (f_X12_whereNow p2 x14).bind fun x16 =>
    (f_X12_laysBack x14).bind fun x18 =>
    some (x16, x18)
    else
    some ((0 : Int32), x9.2)
set_option maxRecDepth 100000 in
set_option maxHeartbeats 4000000 in
theorem c_X12_where {E : am_E} (hE : am_EH E) {p1 : Int32} {p2 : Int32} {D : am_D} {r : (Int32 × am_D)}  (hf : f_X12_where p1 p2 D = some r) : am_C E mX12_where 4 0 0 [.ref 117, .int p1, .int p2] am_G0 D (.inl (some (.int r.1))) am_G0 r.2 := by
  refine am_C_of (by decide +kernel) (Nat.le_of_ble_eq_true rfl) ?_
  change am_S E mX12_where 4 0 0 (.inl (some (.int r.1))) am_G0 r.2 0 0 0 [(0, .ref 117), (1, .int p1), (2, .int p2)] [] am_G0 D
  unfold f_X12_where at hf
  refine am_aload_n (am_dec tmX12_where 0 rfl) rfl rfl ?_
  refine am_iconst (v := (0 : Int32)) (am_dec tmX12_where 1 rfl) (by decide) ?_
  obtain ⟨D1, g2, hf⟩ := am_bd hf
  refine am_putI2 (j := 0) hE (am_dec tmX12_where 2 rfl) sh_117 cf12 (by decide) rfl lf_X12_110 rfl rfl rfl g2 ?_
  refine am_aload_n (am_dec tmX12_where 3 rfl) rfl rfl ?_
  refine am_aload_n (am_dec tmX12_where 4 rfl) rfl rfl ?_
  refine am_iload_n (am_dec tmX12_where 5 rfl) rfl rfl ?_
  obtain ⟨x4, g3, hf⟩ := am_bd hf
  refine am_callV1 (As := [.int p1]) (st := [.ref 117]) hE (am_dec tmX12_where 6 rfl) ok_X12_isMap rfl lm_X12_229 in_X12_isMap se_X12_isMap sh_117 cf12 (c_X12_isMap hE g3) rfl (by decide) (Nat.le_of_ble_eq_true rfl) (Nat.zero_le _) (Nat.zero_le _) rfl ?_
  obtain ⟨w7, g19, hf⟩ := am_bd hf
  have key6 : am_S E mX12_where 4 0 0 (.inl (some (.int r.1))) am_G0 r.2 0 0 19 [(0, .ref 117), (1, .int p1), (2, .int p2)] [.int w7, .ref 117] am_G0 D1 := by
    refine am_iconst (v := (1 : Int32)) (am_dec tmX12_where 11 rfl) (by decide) ?_
    obtain ⟨x9, g8, hf⟩ := am_bd hf
    refine am_callV1 (As := [.int w7, .int (1 : Int32)]) (st := []) hE (am_dec tmX12_where 12 rfl) ok_X12_bad rfl lm_X12_191 in_X12_bad se_X12_bad sh_117 cf12 (c_X12_bad hE g8) rfl (by decide) (Nat.le_of_ble_eq_true rfl) (Nat.zero_le _) (Nat.zero_le _) rfl ?_
    refine am_if_eq (tgt := 28) (am_dec tmX12_where 13 rfl) (by decide) (fun c10 => ?_) (fun c10 => ?_)
    · rw [if_pos c10] at hf
      refine am_aload_n (am_dec tmX12_where 16 rfl) rfl rfl ?_
      obtain ⟨x12, g11, hf⟩ := am_bd hf
      refine am_callV0 (As := []) (st := []) hE (am_dec tmX12_where 17 rfl) ok_X12_lays rfl lm_X12_238 in_X12_lays se_X12_lays sh_117 cf12 (c_X12_lays hE g11) rfl (by decide) (Nat.le_of_ble_eq_true rfl) (Nat.zero_le _) (Nat.zero_le _) rfl ?_
      refine am_aload_n (am_dec tmX12_where 18 rfl) rfl rfl ?_
      refine am_iload_n (am_dec tmX12_where 19 rfl) rfl rfl ?_
      obtain ⟨x14, g13, hf⟩ := am_bd hf
      refine am_callV0 (As := [.int p1]) (st := []) hE (am_dec tmX12_where 20 rfl) ok_X12_takes rfl lm_X12_241 in_X12_takes se_X12_takes sh_117 cf12 (c_X12_takes hE g13) rfl (by decide) (Nat.le_of_ble_eq_true rfl) (Nat.zero_le _) (Nat.zero_le _) rfl ?_
      refine am_aload_n (am_dec tmX12_where 21 rfl) rfl rfl ?_
      refine am_iload_n (am_dec tmX12_where 22 rfl) rfl rfl ?_
      obtain ⟨x16, g15, hf⟩ := am_bd hf
      refine am_callV1 (As := [.int p2]) (st := []) hE (am_dec tmX12_where 23 rfl) ok_X12_whereNow rfl lm_X12_247 in_X12_whereNow se_X12_whereNow sh_117 cf12 (c_X12_whereNow hE g15) rfl (by decide) (Nat.le_of_ble_eq_true rfl) (Nat.zero_le _) (Nat.zero_le _) rfl ?_
      refine am_istore_n (lv' := [(0, .ref 117), (1, .int p1), (2, .int p2), (3, .int x16)]) (am_dec tmX12_where 24 rfl) rfl (by decide) rfl ?_
      refine am_aload_n (am_dec tmX12_where 25 rfl) rfl rfl ?_
      obtain ⟨x18, g17, hf⟩ := am_bd hf
      refine am_callV0 (As := []) (st := []) hE (am_dec tmX12_where 26 rfl) ok_X12_laysBack rfl lm_X12_244 in_X12_laysBack se_X12_laysBack sh_117 cf12 (c_X12_laysBack hE g17) rfl (by decide) (Nat.le_of_ble_eq_true rfl) (Nat.zero_le _) (Nat.zero_le _) rfl ?_
      refine am_iload_n (am_dec tmX12_where 27 rfl) rfl rfl ?_
      have hf := Option.some.inj hf
      subst hf
      exact am_iret (am_dec tmX12_where 28 rfl) rfl (Nat.zero_le _) (Nat.zero_le _)
    · rw [if_neg c10] at hf
      refine am_iconst (v := (0 : Int32)) (am_dec tmX12_where 14 rfl) (by decide) ?_
      have hf := Option.some.inj hf
      subst hf
      exact am_iret (am_dec tmX12_where 15 rfl) rfl (Nat.zero_le _) (Nat.zero_le _)
  replace hf := g19
  refine am_if_ne (tgt := 18) (am_dec tmX12_where 7 rfl) (by decide) (fun c5 => ?_) (fun c5 => ?_)
  · rw [if_neg c5] at hf
    refine am_iconst (v := (0 : Int32)) (am_dec tmX12_where 10 rfl) (by decide) ?_
    have hf := Option.some.inj hf
    subst hf
    exact am_pick [0, 1, 2] rfl key6
  · rw [if_pos c5] at hf
    refine am_iconst (v := (1 : Int32)) (am_dec tmX12_where 8 rfl) (by decide) ?_
    refine am_goto (tgt := 19) (am_dec tmX12_where 9 rfl) (by decide) ?_
    have hf := Option.some.inj hf
    subst hf
    exact am_pick [0, 1, 2] rfl key6
def f_X12_arePieces (p0 : Int32) (p1 : Int32) (p2 : Int32) : Option (Int32) :=
    (f_X12_in p0 (4 : Int32) (64 : Int32)).bind fun x2 =>
    if x2 = 0 then
    some (0 : Int32)
    else
    (f_X12_in p1 (1 : Int32) (p0 / (2 : Int32))).bind fun x5 =>
    if x5 = 0 then
    some (0 : Int32)
    else
    (f_X12_in p2 (0 : Int32) (20 : Int32)).bind fun x8 =>
    if x8 = 0 then
    some (0 : Int32)
    else
    some (1 : Int32)
set_option maxRecDepth 100000 in
set_option maxHeartbeats 4000000 in
theorem c_X12_arePieces {E : am_E} (hE : am_EH E) {p0 : Int32} {p1 : Int32} {p2 : Int32} {D : am_D} {r : Int32}  (hf : f_X12_arePieces p0 p1 p2 = some r) : am_C E mX12_arePieces 2 0 0 [.int p0, .int p1, .int p2] am_G0 D (.inl (some (.int r))) am_G0 D := by
  refine am_C_of (by decide +kernel) (Nat.le_of_ble_eq_true rfl) ?_
  change am_S E mX12_arePieces 2 0 0 (.inl (some (.int r))) am_G0 D 0 0 0 [(0, .int p0), (1, .int p1), (2, .int p2)] [] am_G0 D
  unfold f_X12_arePieces at hf
  refine am_iload_n (am_dec tmX12_arePieces 0 rfl) rfl rfl ?_
  refine am_iconst (v := (4 : Int32)) (am_dec tmX12_arePieces 1 rfl) (by decide) ?_
  refine am_bipush (v := (64 : Int32)) (am_dec tmX12_arePieces 2 rfl) (by decide) ?_
  obtain ⟨x2, g1, hf⟩ := am_bd hf
  refine am_callS1 (As := [.int p0, .int (4 : Int32), .int (64 : Int32)]) (st := []) (am_dec tmX12_arePieces 3 rfl) ok_X12_in rfl lm_X12_144 st_X12_in (c_X12_in hE g1) rfl (by decide) (Nat.le_of_ble_eq_true rfl) (Nat.zero_le _) (Nat.zero_le _) rfl ?_
  refine am_if_eq (tgt := 35) (am_dec tmX12_arePieces 4 rfl) (by decide) (fun c3 => ?_) (fun c3 => ?_)
  · rw [if_pos c3] at hf
    refine am_iconst (v := (0 : Int32)) (am_dec tmX12_arePieces 19 rfl) (by decide) ?_
    have hf := Option.some.inj hf
    subst hf
    exact am_zret (am_dec tmX12_arePieces 20 rfl) rfl am_z0 (Nat.zero_le _) (Nat.zero_le _)
  · rw [if_neg c3] at hf
    refine am_iload_n (am_dec tmX12_arePieces 5 rfl) rfl rfl ?_
    refine am_iconst (v := (1 : Int32)) (am_dec tmX12_arePieces 6 rfl) (by decide) ?_
    refine am_iload_n (am_dec tmX12_arePieces 7 rfl) rfl rfl ?_
    refine am_iconst (v := (2 : Int32)) (am_dec tmX12_arePieces 8 rfl) (by decide) ?_
    refine am_idiv (am_dec tmX12_arePieces 9 rfl) (by decide) ?_
    obtain ⟨x5, g4, hf⟩ := am_bd hf
    refine am_callS1 (As := [.int p1, .int (1 : Int32), .int (p0 / (2 : Int32))]) (st := []) (am_dec tmX12_arePieces 10 rfl) ok_X12_in rfl lm_X12_144 st_X12_in (c_X12_in hE g4) rfl (by decide) (Nat.le_of_ble_eq_true rfl) (Nat.zero_le _) (Nat.zero_le _) rfl ?_
    refine am_if_eq (tgt := 35) (am_dec tmX12_arePieces 11 rfl) (by decide) (fun c6 => ?_) (fun c6 => ?_)
    · rw [if_pos c6] at hf
      refine am_iconst (v := (0 : Int32)) (am_dec tmX12_arePieces 19 rfl) (by decide) ?_
      have hf := Option.some.inj hf
      subst hf
      exact am_zret (am_dec tmX12_arePieces 20 rfl) rfl am_z0 (Nat.zero_le _) (Nat.zero_le _)
    · rw [if_neg c6] at hf
      refine am_iload_n (am_dec tmX12_arePieces 12 rfl) rfl rfl ?_
      refine am_iconst (v := (0 : Int32)) (am_dec tmX12_arePieces 13 rfl) (by decide) ?_
      refine am_bipush (v := (20 : Int32)) (am_dec tmX12_arePieces 14 rfl) (by decide) ?_
      obtain ⟨x8, g7, hf⟩ := am_bd hf
      refine am_callS1 (As := [.int p2, .int (0 : Int32), .int (20 : Int32)]) (st := []) (am_dec tmX12_arePieces 15 rfl) ok_X12_in rfl lm_X12_144 st_X12_in (c_X12_in hE g7) rfl (by decide) (Nat.le_of_ble_eq_true rfl) (Nat.zero_le _) (Nat.zero_le _) rfl ?_
      refine am_if_eq (tgt := 35) (am_dec tmX12_arePieces 16 rfl) (by decide) (fun c9 => ?_) (fun c9 => ?_)
      · rw [if_pos c9] at hf
        refine am_iconst (v := (0 : Int32)) (am_dec tmX12_arePieces 19 rfl) (by decide) ?_
        have hf := Option.some.inj hf
        subst hf
        exact am_zret (am_dec tmX12_arePieces 20 rfl) rfl am_z0 (Nat.zero_le _) (Nat.zero_le _)
      · rw [if_neg c9] at hf
        refine am_iconst (v := (1 : Int32)) (am_dec tmX12_arePieces 17 rfl) (by decide) ?_
        refine am_goto (tgt := 36) (am_dec tmX12_arePieces 18 rfl) (by decide) ?_
        have hf := Option.some.inj hf
        subst hf
        exact am_zret (am_dec tmX12_arePieces 20 rfl) rfl am_z1 (Nat.zero_le _) (Nat.zero_le _)
theorem z_X12_arePieces {p0 : Int32} {p1 : Int32} {p2 : Int32} {r : Int32} (hf : f_X12_arePieces p0 p1 p2 = some r) : narrow .boolean (.int r) = .int r := by
  unfold f_X12_arePieces at hf
  obtain ⟨x2, g1, hf⟩ := am_bd hf
  by_cases c3 : x2 = 0
  · rw [if_pos c3] at hf
    have hf := Option.some.inj hf
    subst hf
    exact am_z0
  · rw [if_neg c3] at hf
    obtain ⟨x5, g4, hf⟩ := am_bd hf
    by_cases c6 : x5 = 0
    · rw [if_pos c6] at hf
      have hf := Option.some.inj hf
      subst hf
      exact am_z0
    · rw [if_neg c6] at hf
      obtain ⟨x8, g7, hf⟩ := am_bd hf
      by_cases c9 : x8 = 0
      · rw [if_pos c9] at hf
        have hf := Option.some.inj hf
        subst hf
        exact am_z0
      · rw [if_neg c9] at hf
        have hf := Option.some.inj hf
        subst hf
        exact am_z1
def f_X12_pieces (p1 : Int32) (p2 : Int32) (p3 : Int32) (D : am_D) : Option ((Int32 × am_D)) :=
    (some (am_wI D 117 0 (0 : Int32))).bind fun D1 =>
    (f_X12_arePieces p1 p2 p3).bind fun x4 =>
    (if x4 = 0 then
    some ((1 : Int32))
    else
    some ((0 : Int32))).bind fun w7 =>
    (f_X12_bad w7 (1 : Int32) D1).bind fun x9 =>
    if x9.1 = 0 then
    (some (am_wI x9.2 117 14 p1)).bind fun D11 =>
    (some (am_wI D11 117 15 p2)).bind fun D13 =>
    (some (am_wI D13 117 16 p3)).bind fun D15 =>
    some ((x9.2.1 117 14), D15)
    else
    some ((0 : Int32), x9.2)
set_option maxRecDepth 100000 in
set_option maxHeartbeats 4000000 in
theorem c_X12_pieces {E : am_E} (hE : am_EH E) {p1 : Int32} {p2 : Int32} {p3 : Int32} {D : am_D} {r : (Int32 × am_D)}  (hf : f_X12_pieces p1 p2 p3 D = some r) : am_C E mX12_pieces 3 0 0 [.ref 117, .int p1, .int p2, .int p3] am_G0 D (.inl (some (.int r.1))) am_G0 r.2 := by
  refine am_C_of (by decide +kernel) (Nat.le_of_ble_eq_true rfl) ?_
  change am_S E mX12_pieces 3 0 0 (.inl (some (.int r.1))) am_G0 r.2 0 0 0 [(0, .ref 117), (1, .int p1), (2, .int p2), (3, .int p3)] [] am_G0 D
  unfold f_X12_pieces at hf
  refine am_aload_n (am_dec tmX12_pieces 0 rfl) rfl rfl ?_
  refine am_iconst (v := (0 : Int32)) (am_dec tmX12_pieces 1 rfl) (by decide) ?_
  obtain ⟨D1, g2, hf⟩ := am_bd hf
  refine am_putI2 (j := 0) hE (am_dec tmX12_pieces 2 rfl) sh_117 cf12 (by decide) rfl lf_X12_110 rfl rfl rfl g2 ?_
  refine am_aload_n (am_dec tmX12_pieces 3 rfl) rfl rfl ?_
  refine am_iload_n (am_dec tmX12_pieces 4 rfl) rfl rfl ?_
  refine am_iload_n (am_dec tmX12_pieces 5 rfl) rfl rfl ?_
  refine am_iload_n (am_dec tmX12_pieces 6 rfl) rfl rfl ?_
  obtain ⟨x4, g3, hf⟩ := am_bd hf
  refine am_callS1 (As := [.int p1, .int p2, .int p3]) (st := [.ref 117]) (am_dec tmX12_pieces 7 rfl) ok_X12_arePieces rfl lm_X12_278 st_X12_arePieces (c_X12_arePieces hE g3) rfl (by decide) (Nat.le_of_ble_eq_true rfl) (Nat.zero_le _) (Nat.zero_le _) rfl ?_
  obtain ⟨w7, g17, hf⟩ := am_bd hf
  have key6 : am_S E mX12_pieces 3 0 0 (.inl (some (.int r.1))) am_G0 r.2 0 0 20 [(0, .ref 117), (1, .int p1), (2, .int p2), (3, .int p3)] [.int w7, .ref 117] am_G0 D1 := by
    refine am_iconst (v := (1 : Int32)) (am_dec tmX12_pieces 12 rfl) (by decide) ?_
    obtain ⟨x9, g8, hf⟩ := am_bd hf
    refine am_callV1 (As := [.int w7, .int (1 : Int32)]) (st := []) hE (am_dec tmX12_pieces 13 rfl) ok_X12_bad rfl lm_X12_191 in_X12_bad se_X12_bad sh_117 cf12 (c_X12_bad hE g8) rfl (by decide) (Nat.le_of_ble_eq_true rfl) (Nat.zero_le _) (Nat.zero_le _) rfl ?_
    refine am_if_eq (tgt := 29) (am_dec tmX12_pieces 14 rfl) (by decide) (fun c10 => ?_) (fun c10 => ?_)
    · rw [if_pos c10] at hf
      refine am_aload_n (am_dec tmX12_pieces 17 rfl) rfl rfl ?_
      refine am_getI (j := 14) hE (am_dec tmX12_pieces 18 rfl) sh_117 cf12 (by decide) rfl lf_X12_25 ?_
      refine am_istore (lv' := [(0, .ref 117), (1, .int p1), (2, .int p2), (3, .int p3), (4, .int (x9.2.1 117 14))]) (am_dec tmX12_pieces 19 rfl) (by decide) rfl ?_
      refine am_aload_n (am_dec tmX12_pieces 20 rfl) rfl rfl ?_
      refine am_iload_n (am_dec tmX12_pieces 21 rfl) rfl rfl ?_
      obtain ⟨D11, g12, hf⟩ := am_bd hf
      refine am_putI2 (j := 14) hE (am_dec tmX12_pieces 22 rfl) sh_117 cf12 (by decide) rfl lf_X12_25 rfl rfl rfl g12 ?_
      refine am_aload_n (am_dec tmX12_pieces 23 rfl) rfl rfl ?_
      refine am_iload_n (am_dec tmX12_pieces 24 rfl) rfl rfl ?_
      obtain ⟨D13, g14, hf⟩ := am_bd hf
      refine am_putI2 (j := 15) hE (am_dec tmX12_pieces 25 rfl) sh_117 cf12 (by decide) rfl lf_X12_28 rfl rfl rfl g14 ?_
      refine am_aload_n (am_dec tmX12_pieces 26 rfl) rfl rfl ?_
      refine am_iload_n (am_dec tmX12_pieces 27 rfl) rfl rfl ?_
      obtain ⟨D15, g16, hf⟩ := am_bd hf
      refine am_putI2 (j := 16) hE (am_dec tmX12_pieces 28 rfl) sh_117 cf12 (by decide) rfl lf_X12_31 rfl rfl rfl g16 ?_
      refine am_iload (am_dec tmX12_pieces 29 rfl) rfl ?_
      have hf := Option.some.inj hf
      subst hf
      exact am_iret (am_dec tmX12_pieces 30 rfl) rfl (Nat.zero_le _) (Nat.zero_le _)
    · rw [if_neg c10] at hf
      refine am_iconst (v := (0 : Int32)) (am_dec tmX12_pieces 15 rfl) (by decide) ?_
      have hf := Option.some.inj hf
      subst hf
      exact am_iret (am_dec tmX12_pieces 16 rfl) rfl (Nat.zero_le _) (Nat.zero_le _)
  replace hf := g17
  refine am_if_ne (tgt := 19) (am_dec tmX12_pieces 8 rfl) (by decide) (fun c5 => ?_) (fun c5 => ?_)
  · rw [if_neg c5] at hf
    refine am_iconst (v := (0 : Int32)) (am_dec tmX12_pieces 11 rfl) (by decide) ?_
    have hf := Option.some.inj hf
    subst hf
    exact am_pick [0, 1, 2, 3] rfl key6
  · rw [if_pos c5] at hf
    refine am_iconst (v := (1 : Int32)) (am_dec tmX12_pieces 9 rfl) (by decide) ?_
    refine am_goto (tgt := 20) (am_dec tmX12_pieces 10 rfl) (by decide) ?_
    have hf := Option.some.inj hf
    subst hf
    exact am_pick [0, 1, 2, 3] rfl key6
def f_X12_unlike_L5 (q1 : Int32) (q2 : Int32) (D : am_D) : Nat → Int32 → Int32 → Option (Int32)
  | 0, _, _ => none
  | n + 1, v3, v4 =>
    if (D.1 117 15) ≤ v4 then
    some (v3)
    else
    if (D.1 117 38) ≤ (q1 + v4) then
    some (v3)
    else
    (am_gI D 221 1200 (q2 + v4)).bind fun x3 =>
    (am_gI D 222 1200 (q1 + v4)).bind fun x5 =>
    (f_X12_amount (x3 - x5)).bind fun x8 =>
    f_X12_unlike_L5 q1 q2 D n (v3 + x8) (v4 + (1 : Int32))
def f_X12_unlike (p1 : Int32) (p2 : Int32) (D : am_D) : Option (Int32) :=
    (f_X12_unlike_L5 p1 p2 D am_fu (0 : Int32) (0 : Int32)).bind fun e9 =>
    some e9
set_option maxRecDepth 100000 in
set_option maxHeartbeats 4000000 in
theorem l_X12_unlike_L5 {E : am_E} (hE : am_EH E) {d mc ms : Nat} {o : am_O} {G2 : am_G} {D2 : am_D} (hdp : 2 ≤ d) {q1 : Int32} {q2 : Int32} {D : am_D}  : ∀ (n : Nat) (v3 : Int32) (v4 : Int32) (ex0 : Int32), f_X12_unlike_L5 q1 q2 D n v3 v4 = some ex0 → (∀ ex : Int32, ex0 = ex → am_S E mX12_unlike d mc ms o G2 D2 0 0 56 [(3, .int ex)] [] am_G0 D) → am_S E mX12_unlike d mc ms o G2 D2 0 0 5 [(0, .ref 117), (1, .int q1), (2, .int q2), (3, .int v3), (4, .int v4)] [] am_G0 D
  | 0, _, _, _, hf, _ => by
    unfold f_X12_unlike_L5 at hf
    cases hf
  | n + 1, v3, v4, ex0, hf, hk0 => by
    unfold f_X12_unlike_L5 at hf
    refine am_iload (am_dec tmX12_unlike 4 rfl) rfl ?_
    refine am_aload_n (am_dec tmX12_unlike 5 rfl) rfl rfl ?_
    refine am_getI (j := 15) hE (am_dec tmX12_unlike 6 rfl) sh_117 cf12 (by decide) rfl lf_X12_28 ?_
    refine am_icmp_ge (tgt := 56) (am_dec tmX12_unlike 7 rfl) (by decide) (fun c1 => ?_) (fun c1 => ?_)
    · rw [if_pos c1] at hf
      have hf := Option.some.inj hf
      subst hf
      exact am_pick [3] rfl (hk0 _ rfl)
    · rw [if_neg c1] at hf
      refine am_iload_n (am_dec tmX12_unlike 8 rfl) rfl rfl ?_
      refine am_iload (am_dec tmX12_unlike 9 rfl) rfl ?_
      refine am_iadd (am_dec tmX12_unlike 10 rfl) ?_
      refine am_aload_n (am_dec tmX12_unlike 11 rfl) rfl rfl ?_
      refine am_getI (j := 38) hE (am_dec tmX12_unlike 12 rfl) sh_117 cf12 (by decide) rfl lf_X12_262 ?_
      refine am_icmp_ge (tgt := 56) (am_dec tmX12_unlike 13 rfl) (by decide) (fun c2 => ?_) (fun c2 => ?_)
      · rw [if_pos c2] at hf
        have hf := Option.some.inj hf
        subst hf
        exact am_pick [3] rfl (hk0 _ rfl)
      · rw [if_neg c2] at hf
        refine am_iload_n (am_dec tmX12_unlike 14 rfl) rfl rfl ?_
        refine am_aload_n (am_dec tmX12_unlike 15 rfl) rfl rfl ?_
        refine am_getR (j := 33) hE (am_dec tmX12_unlike 16 rfl) sh_117 cf12 (by decide) rfl lf_X12_70 rf_117_33 ?_
        refine am_iload_n (am_dec tmX12_unlike 17 rfl) rfl rfl ?_
        refine am_iload (am_dec tmX12_unlike 18 rfl) rfl ?_
        refine am_iadd (am_dec tmX12_unlike 19 rfl) ?_
        obtain ⟨x3, g4, hf⟩ := am_bd hf
        refine am_iald2 hE (am_dec tmX12_unlike 20 rfl) sh_221 g4 ?_
        refine am_aload_n (am_dec tmX12_unlike 21 rfl) rfl rfl ?_
        refine am_getR (j := 34) hE (am_dec tmX12_unlike 22 rfl) sh_117 cf12 (by decide) rfl lf_X12_73 rf_117_34 ?_
        refine am_iload_n (am_dec tmX12_unlike 23 rfl) rfl rfl ?_
        refine am_iload (am_dec tmX12_unlike 24 rfl) rfl ?_
        refine am_iadd (am_dec tmX12_unlike 25 rfl) ?_
        obtain ⟨x5, g6, hf⟩ := am_bd hf
        refine am_iald2 hE (am_dec tmX12_unlike 26 rfl) sh_222 g6 ?_
        refine am_isub (am_dec tmX12_unlike 27 rfl) ?_
        obtain ⟨x8, g7, hf⟩ := am_bd hf
        refine am_callS1 (As := [.int (x3 - x5)]) (st := [.int v3]) (am_dec tmX12_unlike 28 rfl) ok_X12_amount rfl lm_X12_281 st_X12_amount (c_X12_amount hE g7) rfl (Nat.lt_of_lt_of_le (by decide) hdp) (Nat.le_of_ble_eq_true rfl) (Nat.zero_le _) (Nat.zero_le _) rfl ?_
        refine am_iadd (am_dec tmX12_unlike 29 rfl) ?_
        refine am_istore_n (lv' := [(0, .ref 117), (1, .int q1), (2, .int q2), (3, .int (v3 + x8)), (4, .int v4)]) (am_dec tmX12_unlike 30 rfl) rfl (by decide) rfl ?_
        refine am_iinc (v := (1 : Int32)) (lv' := [(0, .ref 117), (1, .int q1), (2, .int q2), (3, .int (v3 + x8)), (4, .int (v4 + (1 : Int32)))]) (am_dec tmX12_unlike 31 rfl) rfl (by decide) (by decide) rfl ?_
        refine am_goto (tgt := 5) (am_dec tmX12_unlike 32 rfl) (by decide) ?_
        exact am_pick [0, 1, 2, 3, 4] rfl (l_X12_unlike_L5 hE hdp n (v3 + x8) (v4 + (1 : Int32)) ex0 hf hk0)
set_option maxRecDepth 100000 in
set_option maxHeartbeats 4000000 in
theorem c_X12_unlike {E : am_E} (hE : am_EH E) {p1 : Int32} {p2 : Int32} {D : am_D} {r : Int32}  (hf : f_X12_unlike p1 p2 D = some r) : am_C E mX12_unlike 2 0 0 [.ref 117, .int p1, .int p2] am_G0 D (.inl (some (.int r))) am_G0 D := by
  refine am_C_of (by decide +kernel) (Nat.le_of_ble_eq_true rfl) ?_
  change am_S E mX12_unlike 2 0 0 (.inl (some (.int r))) am_G0 D 0 0 0 [(0, .ref 117), (1, .int p1), (2, .int p2)] [] am_G0 D
  unfold f_X12_unlike at hf
  refine am_iconst (v := (0 : Int32)) (am_dec tmX12_unlike 0 rfl) (by decide) ?_
  refine am_istore_n (lv' := [(0, .ref 117), (1, .int p1), (2, .int p2), (3, .int (0 : Int32))]) (am_dec tmX12_unlike 1 rfl) rfl (by decide) rfl ?_
  refine am_iconst (v := (0 : Int32)) (am_dec tmX12_unlike 2 rfl) (by decide) ?_
  refine am_istore (lv' := [(0, .ref 117), (1, .int p1), (2, .int p2), (3, .int (0 : Int32)), (4, .int (0 : Int32))]) (am_dec tmX12_unlike 3 rfl) (by decide) rfl ?_
  obtain ⟨e9, g10, hf⟩ := am_bd hf
  refine am_pick [0, 1, 2, 3, 4] rfl (l_X12_unlike_L5 hE (Nat.le_refl _) am_fu _ _ _ g10 (fun ex he => ?_))
  subst he
  refine am_iload_n (am_dec tmX12_unlike 33 rfl) rfl rfl ?_
  have hf := Option.some.inj hf
  subst hf
  exact am_iret (am_dec tmX12_unlike 34 rfl) rfl (Nat.zero_le _) (Nat.zero_le _)
def f_X12_lies_L48 (q1 : Int32) (q2 : Int32) (q3 : Int32) (D : am_D) : Nat → Int32 → Int32 → Int32 → Int32 → Option (Int32 × Int32 × Int32)
  | 0, _, _, _, _ => none
  | n + 1, v4, v5, v6, v7 =>
    if ((2 : Int32) * (D.1 117 16)) < v7 then
    some (v4, v5, v6)
    else
    (am_rm v7 (2 : Int32)).bind fun x8 =>
    (if x8 = (1 : Int32) then
    some ((-((v7 / (2 : Int32)) + (1 : Int32))))
    else
    some ((v7 / (2 : Int32)))).bind fun w12 =>
    (f_X12_in (q2 + w12) (0 : Int32) q3).bind fun x14 =>
    (if x14 = 0 then
    some (v4, v5, v6)
    else
    (f_X12_unlike q1 (q2 + w12) D).bind fun x18 =>
    if v6 = 0 then
    some (w12, x18, (1 : Int32))
    else
    if x18 < v5 then
    some (w12, x18, (1 : Int32))
    else
    some (v4, v5, v6)).bind fun w21 =>
    f_X12_lies_L48 q1 q2 q3 D n w21.1 w21.2.1 w21.2.2 (v7 + (1 : Int32))
def f_X12_lies_L209 (q1 : Int32) (q2 : Int32) (q4 : Int32) : Nat → Int32 → am_D → Option (am_D)
  | 0, _, _ => none
  | n + 1, v7, D =>
    if (D.1 117 14) ≤ v7 then
    some (D)
    else
    if (D.1 117 38) ≤ (q1 + v7) then
    some (D)
    else
    (am_gI D 221 1200 ((q2 + q4) + v7)).bind fun x46 =>
    (if (D.1 117 15) ≤ v7 then
    some (x46)
    else
    (am_gI D 222 1200 (q1 + v7)).bind fun x50 =>
    (am_dv ((x50 * ((D.1 117 15) - v7)) + (x46 * v7)) (D.1 117 15)).bind fun x52 =>
    some (x52)).bind fun w54 =>
    (am_pI D 222 1200 (q1 + v7) w54).bind fun D55 =>
    f_X12_lies_L209 q1 q2 q4 n (v7 + (1 : Int32)) D55
def f_X12_lies (p1 : Int32) (D : am_D) : Option (am_D) :=
    (f_X12_placeNow p1 D).bind fun x2 =>
    (if 0 ≤ x2 then
    if x2 ≤ ((D.1 117 36) - (D.1 117 14)) then
    some ((0 : Int32))
    else
    some ((((D.1 117 36) - (D.1 117 14)) - x2))
    else
    some ((-x2))).bind fun w6 =>
    (f_X12_lies_L48 p1 x2 ((D.1 117 36) - (D.1 117 14)) D am_fu w6 (-1 : Int32) (0 : Int32) (0 : Int32)).bind fun e24 =>
    (am_gA 1200 (D.1 117 39)).bind fun j25 =>
    (am_pI D (225 + j25) 3 (0 : Int32) p1).bind fun D27 =>
    (am_gA 1200 (D27.1 117 39)).bind fun j29 =>
    (am_pI D27 (225 + j29) 3 (1 : Int32) e24.1).bind fun D31 =>
    (am_gA 1200 (D31.1 117 39)).bind fun j33 =>
    (if e24.2.2 = 0 then
    (f_X12_unlike p1 (x2 + e24.1) D31).bind fun x38 =>
    some (x38)
    else
    some (e24.2.1)).bind fun w39 =>
    (am_pI D31 (225 + j33) 3 (2 : Int32) w39).bind fun D40 =>
    (some (am_wI D40 117 39 ((D40.1 117 39) + (1 : Int32)))).bind fun D42 =>
    (f_X12_lies_L209 p1 x2 e24.1 am_fu (0 : Int32) D42).bind fun e58 =>
    some e58
set_option maxRecDepth 100000 in
set_option maxHeartbeats 4000000 in
theorem l_X12_lies_L48 {E : am_E} (hE : am_EH E) {d mc ms : Nat} {o : am_O} {G2 : am_G} {D2 : am_D} (hdp : 3 ≤ d) {q1 : Int32} {q2 : Int32} {q3 : Int32} {D : am_D}  : ∀ (n : Nat) (v4 : Int32) (v5 : Int32) (v6 : Int32) (v7 : Int32) (ex0 : Int32 × Int32 × Int32), f_X12_lies_L48 q1 q2 q3 D n v4 v5 v6 v7 = some ex0 → (∀ ex : Int32 × Int32 × Int32, ex0 = ex → am_S E mX12_lies d mc ms o G2 D2 0 0 141 [(0, .ref 117), (1, .int q1), (2, .int q2), (4, .int ex.1), (5, .int ex.2.1), (6, .int ex.2.2)] [] am_G0 D) → am_S E mX12_lies d mc ms o G2 D2 0 0 48 [(0, .ref 117), (1, .int q1), (2, .int q2), (3, .int q3), (4, .int v4), (5, .int v5), (6, .int v6), (7, .int v7)] [] am_G0 D
  | 0, _, _, _, _, _, hf, _ => by
    unfold f_X12_lies_L48 at hf
    cases hf
  | n + 1, v4, v5, v6, v7, ex0, hf, hk0 => by
    unfold f_X12_lies_L48 at hf
    refine am_iload (am_dec tmX12_lies_0 30 rfl) rfl ?_
    refine am_iconst (v := (2 : Int32)) (am_dec tmX12_lies_0 31 rfl) (by decide) ?_
    refine am_aload_n (am_dec tmX12_lies_0 32 rfl) rfl rfl ?_
    refine am_getI (j := 16) hE (am_dec tmX12_lies_0 33 rfl) sh_117 cf12 (by decide) rfl lf_X12_31 ?_
    refine am_imul (am_dec tmX12_lies_0 34 rfl) ?_
    refine am_icmp_gt (tgt := 141) (am_dec tmX12_lies_0 35 rfl) (by decide) (fun c7 => ?_) (fun c7 => ?_)
    · rw [if_pos c7] at hf
      have hf := Option.some.inj hf
      subst hf
      exact am_pick [0, 1, 2, 4, 5, 6] rfl (hk0 _ rfl)
    · rw [if_neg c7] at hf
      refine am_iload (am_dec tmX12_lies_0 36 rfl) rfl ?_
      refine am_iconst (v := (2 : Int32)) (am_dec tmX12_lies_0 37 rfl) (by decide) ?_
      obtain ⟨x8, g9, hf⟩ := am_bd hf
      refine am_irem2 (am_dec tmX12_lies_0 38 rfl) g9 ?_
      refine am_iconst (v := (1 : Int32)) (am_dec tmX12_lies_0 39 rfl) (by decide) ?_
      obtain ⟨w12, g23, hf⟩ := am_bd hf
      have key11 : am_S E mX12_lies d mc ms o G2 D2 0 0 81 [(0, .ref 117), (1, .int q1), (2, .int q2), (3, .int q3), (4, .int v4), (5, .int v5), (6, .int v6), (7, .int v7)] [.int w12] am_G0 D := by
        refine am_istore (lv' := [(0, .ref 117), (1, .int q1), (2, .int q2), (3, .int q3), (4, .int v4), (5, .int v5), (6, .int v6), (7, .int v7), (8, .int w12)]) (am_dec tmX12_lies_0 51 rfl) (by decide) rfl ?_
        refine am_iload_n (am_dec tmX12_lies_0 52 rfl) rfl rfl ?_
        refine am_iload (am_dec tmX12_lies_0 53 rfl) rfl ?_
        refine am_iadd (am_dec tmX12_lies_0 54 rfl) ?_
        refine am_iconst (v := (0 : Int32)) (am_dec tmX12_lies_0 55 rfl) (by decide) ?_
        refine am_iload_n (am_dec tmX12_lies_0 56 rfl) rfl rfl ?_
        obtain ⟨x14, g13, hf⟩ := am_bd hf
        refine am_callS1 (As := [.int (q2 + w12), .int (0 : Int32), .int q3]) (st := []) (am_dec tmX12_lies_0 57 rfl) ok_X12_in rfl lm_X12_144 st_X12_in (c_X12_in hE g13) rfl (Nat.lt_of_lt_of_le (by decide) hdp) (Nat.le_of_ble_eq_true rfl) (Nat.zero_le _) (Nat.zero_le _) rfl ?_
        obtain ⟨w21, g22, hf⟩ := am_bd hf
        have key16 : am_S E mX12_lies d mc ms o G2 D2 0 0 135 [(0, .ref 117), (1, .int q1), (2, .int q2), (3, .int q3), (4, .int w21.1), (5, .int w21.2.1), (6, .int w21.2.2), (7, .int v7)] [] am_G0 D := by
          refine am_iinc (v := (1 : Int32)) (lv' := [(0, .ref 117), (1, .int q1), (2, .int q2), (3, .int q3), (4, .int w21.1), (5, .int w21.2.1), (6, .int w21.2.2), (7, .int (v7 + (1 : Int32)))]) (am_dec tmX12_lies_1 19 rfl) rfl (by decide) (by decide) rfl ?_
          refine am_goto (tgt := 48) (am_dec tmX12_lies_1 20 rfl) (by decide) ?_
          exact am_pick [0, 1, 2, 3, 4, 5, 6, 7] rfl (l_X12_lies_L48 hE hdp n w21.1 w21.2.1 w21.2.2 (v7 + (1 : Int32)) ex0 hf hk0)
        replace hf := g22
        refine am_if_ne (tgt := 98) (am_dec tmX12_lies_0 58 rfl) (by decide) (fun c15 => ?_) (fun c15 => ?_)
        · rw [if_neg c15] at hf
          refine am_aload_n (am_dec tmX12_lies_1 0 rfl) rfl rfl ?_
          refine am_iload_n (am_dec tmX12_lies_1 1 rfl) rfl rfl ?_
          refine am_iload_n (am_dec tmX12_lies_1 2 rfl) rfl rfl ?_
          refine am_iload (am_dec tmX12_lies_1 3 rfl) rfl ?_
          refine am_iadd (am_dec tmX12_lies_1 4 rfl) ?_
          obtain ⟨x18, g17, hf⟩ := am_bd hf
          refine am_callV1 (As := [.int q1, .int (q2 + w12)]) (st := []) hE (am_dec tmX12_lies_1 5 rfl) ok_X12_unlike rfl lm_X12_287 in_X12_unlike se_X12_unlike sh_117 cf12 (c_X12_unlike hE g17) rfl (Nat.lt_of_lt_of_le (by decide) hdp) (Nat.le_of_ble_eq_true rfl) (Nat.zero_le _) (Nat.zero_le _) rfl ?_
          refine am_istore (lv' := [(0, .ref 117), (1, .int q1), (2, .int q2), (3, .int q3), (4, .int v4), (5, .int v5), (6, .int v6), (7, .int v7), (8, .int w12), (9, .int x18)]) (am_dec tmX12_lies_1 6 rfl) (by decide) rfl ?_
          refine am_iload (am_dec tmX12_lies_1 7 rfl) rfl ?_
          refine am_if_eq (tgt := 124) (am_dec tmX12_lies_1 8 rfl) (by decide) (fun c19 => ?_) (fun c19 => ?_)
          · rw [if_pos c19] at hf
            refine am_iconst (v := (1 : Int32)) (am_dec tmX12_lies_1 13 rfl) (by decide) ?_
            refine am_istore (lv' := [(0, .ref 117), (1, .int q1), (2, .int q2), (3, .int q3), (4, .int v4), (5, .int v5), (6, .int (1 : Int32)), (7, .int v7), (8, .int w12), (9, .int x18)]) (am_dec tmX12_lies_1 14 rfl) (by decide) rfl ?_
            refine am_iload (am_dec tmX12_lies_1 15 rfl) rfl ?_
            refine am_istore (lv' := [(0, .ref 117), (1, .int q1), (2, .int q2), (3, .int q3), (4, .int w12), (5, .int v5), (6, .int (1 : Int32)), (7, .int v7), (8, .int w12), (9, .int x18)]) (am_dec tmX12_lies_1 16 rfl) (by decide) rfl ?_
            refine am_iload (am_dec tmX12_lies_1 17 rfl) rfl ?_
            refine am_istore (lv' := [(0, .ref 117), (1, .int q1), (2, .int q2), (3, .int q3), (4, .int w12), (5, .int x18), (6, .int (1 : Int32)), (7, .int v7), (8, .int w12), (9, .int x18)]) (am_dec tmX12_lies_1 18 rfl) (by decide) rfl ?_
            have hf := Option.some.inj hf
            subst hf
            exact am_pick [0, 1, 2, 3, 4, 5, 6, 7] rfl key16
          · rw [if_neg c19] at hf
            refine am_iload (am_dec tmX12_lies_1 9 rfl) rfl ?_
            refine am_iload (am_dec tmX12_lies_1 10 rfl) rfl ?_
            refine am_icmp_lt (tgt := 124) (am_dec tmX12_lies_1 11 rfl) (by decide) (fun c20 => ?_) (fun c20 => ?_)
            · rw [if_pos c20] at hf
              refine am_iconst (v := (1 : Int32)) (am_dec tmX12_lies_1 13 rfl) (by decide) ?_
              refine am_istore (lv' := [(0, .ref 117), (1, .int q1), (2, .int q2), (3, .int q3), (4, .int v4), (5, .int v5), (6, .int (1 : Int32)), (7, .int v7), (8, .int w12), (9, .int x18)]) (am_dec tmX12_lies_1 14 rfl) (by decide) rfl ?_
              refine am_iload (am_dec tmX12_lies_1 15 rfl) rfl ?_
              refine am_istore (lv' := [(0, .ref 117), (1, .int q1), (2, .int q2), (3, .int q3), (4, .int w12), (5, .int v5), (6, .int (1 : Int32)), (7, .int v7), (8, .int w12), (9, .int x18)]) (am_dec tmX12_lies_1 16 rfl) (by decide) rfl ?_
              refine am_iload (am_dec tmX12_lies_1 17 rfl) rfl ?_
              refine am_istore (lv' := [(0, .ref 117), (1, .int q1), (2, .int q2), (3, .int q3), (4, .int w12), (5, .int x18), (6, .int (1 : Int32)), (7, .int v7), (8, .int w12), (9, .int x18)]) (am_dec tmX12_lies_1 18 rfl) (by decide) rfl ?_
              have hf := Option.some.inj hf
              subst hf
              exact am_pick [0, 1, 2, 3, 4, 5, 6, 7] rfl key16
            · rw [if_neg c20] at hf
              refine am_goto (tgt := 135) (am_dec tmX12_lies_1 12 rfl) (by decide) ?_
              have hf := Option.some.inj hf
              subst hf
              exact am_pick [0, 1, 2, 3, 4, 5, 6, 7] rfl key16
        · rw [if_pos c15] at hf
          refine am_goto (tgt := 135) (am_dec tmX12_lies_0 59 rfl) (by decide) ?_
          have hf := Option.some.inj hf
          subst hf
          exact am_pick [0, 1, 2, 3, 4, 5, 6, 7] rfl key16
      replace hf := g23
      refine am_icmp_ne (tgt := 77) (am_dec tmX12_lies_0 40 rfl) (by decide) (fun c10 => ?_) (fun c10 => ?_)
      · rw [if_neg c10] at hf
        refine am_iload (am_dec tmX12_lies_0 48 rfl) rfl ?_
        refine am_iconst (v := (2 : Int32)) (am_dec tmX12_lies_0 49 rfl) (by decide) ?_
        refine am_idiv (am_dec tmX12_lies_0 50 rfl) (by decide) ?_
        have hf := Option.some.inj hf
        subst hf
        exact am_pick [0, 1, 2, 3, 4, 5, 6, 7] rfl key11
      · rw [if_pos c10] at hf
        refine am_iload (am_dec tmX12_lies_0 41 rfl) rfl ?_
        refine am_iconst (v := (2 : Int32)) (am_dec tmX12_lies_0 42 rfl) (by decide) ?_
        refine am_idiv (am_dec tmX12_lies_0 43 rfl) (by decide) ?_
        refine am_iconst (v := (1 : Int32)) (am_dec tmX12_lies_0 44 rfl) (by decide) ?_
        refine am_iadd (am_dec tmX12_lies_0 45 rfl) ?_
        refine am_ineg (am_dec tmX12_lies_0 46 rfl) ?_
        refine am_goto (tgt := 81) (am_dec tmX12_lies_0 47 rfl) (by decide) ?_
        have hf := Option.some.inj hf
        subst hf
        exact am_pick [0, 1, 2, 3, 4, 5, 6, 7] rfl key11
set_option maxRecDepth 100000 in
set_option maxHeartbeats 4000000 in
theorem l_X12_lies_L209 {E : am_E} (hE : am_EH E) {d mc ms : Nat} {o : am_O} {G2 : am_G} {D2 : am_D} (hdp : 3 ≤ d) {q1 : Int32} {q2 : Int32} {q4 : Int32}  : ∀ (n : Nat) (v7 : Int32) (D : am_D) (ex0 : am_D), f_X12_lies_L209 q1 q2 q4 n v7 D = some ex0 → (∀ ex : am_D, ex0 = ex → am_S E mX12_lies d mc ms o G2 D2 0 0 300 [] [] am_G0 ex) → am_S E mX12_lies d mc ms o G2 D2 0 0 209 [(0, .ref 117), (1, .int q1), (2, .int q2), (4, .int q4), (7, .int v7)] [] am_G0 D
  | 0, _, _, _, hf, _ => by
    unfold f_X12_lies_L209 at hf
    cases hf
  | n + 1, v7, D, ex0, hf, hk0 => by
    unfold f_X12_lies_L209 at hf
    refine am_iload (am_dec tmX12_lies_2 2 rfl) rfl ?_
    refine am_aload_n (am_dec tmX12_lies_2 3 rfl) rfl rfl ?_
    refine am_getI (j := 14) hE (am_dec tmX12_lies_2 4 rfl) sh_117 cf12 (by decide) rfl lf_X12_25 ?_
    refine am_icmp_ge (tgt := 300) (am_dec tmX12_lies_2 5 rfl) (by decide) (fun c44 => ?_) (fun c44 => ?_)
    · rw [if_pos c44] at hf
      have hf := Option.some.inj hf
      subst hf
      exact am_pick [] rfl (hk0 _ rfl)
    · rw [if_neg c44] at hf
      refine am_iload_n (am_dec tmX12_lies_2 6 rfl) rfl rfl ?_
      refine am_iload (am_dec tmX12_lies_2 7 rfl) rfl ?_
      refine am_iadd (am_dec tmX12_lies_2 8 rfl) ?_
      refine am_aload_n (am_dec tmX12_lies_2 9 rfl) rfl rfl ?_
      refine am_getI (j := 38) hE (am_dec tmX12_lies_2 10 rfl) sh_117 cf12 (by decide) rfl lf_X12_262 ?_
      refine am_icmp_ge (tgt := 300) (am_dec tmX12_lies_2 11 rfl) (by decide) (fun c45 => ?_) (fun c45 => ?_)
      · rw [if_pos c45] at hf
        have hf := Option.some.inj hf
        subst hf
        exact am_pick [] rfl (hk0 _ rfl)
      · rw [if_neg c45] at hf
        refine am_aload_n (am_dec tmX12_lies_2 12 rfl) rfl rfl ?_
        refine am_getR (j := 33) hE (am_dec tmX12_lies_2 13 rfl) sh_117 cf12 (by decide) rfl lf_X12_70 rf_117_33 ?_
        refine am_iload_n (am_dec tmX12_lies_2 14 rfl) rfl rfl ?_
        refine am_iload (am_dec tmX12_lies_2 15 rfl) rfl ?_
        refine am_iadd (am_dec tmX12_lies_2 16 rfl) ?_
        refine am_iload (am_dec tmX12_lies_2 17 rfl) rfl ?_
        refine am_iadd (am_dec tmX12_lies_2 18 rfl) ?_
        obtain ⟨x46, g47, hf⟩ := am_bd hf
        refine am_iald2 hE (am_dec tmX12_lies_2 19 rfl) sh_221 g47 ?_
        refine am_istore (lv' := [(0, .ref 117), (1, .int q1), (2, .int q2), (4, .int q4), (7, .int v7), (8, .int x46)]) (am_dec tmX12_lies_2 20 rfl) (by decide) rfl ?_
        refine am_aload_n (am_dec tmX12_lies_2 21 rfl) rfl rfl ?_
        refine am_getR (j := 34) hE (am_dec tmX12_lies_2 22 rfl) sh_117 cf12 (by decide) rfl lf_X12_73 rf_117_34 ?_
        refine am_iload_n (am_dec tmX12_lies_2 23 rfl) rfl rfl ?_
        refine am_iload (am_dec tmX12_lies_2 24 rfl) rfl ?_
        refine am_iadd (am_dec tmX12_lies_2 25 rfl) ?_
        refine am_iload (am_dec tmX12_lies_2 26 rfl) rfl ?_
        refine am_aload_n (am_dec tmX12_lies_2 27 rfl) rfl rfl ?_
        refine am_getI (j := 15) hE (am_dec tmX12_lies_2 28 rfl) sh_117 cf12 (by decide) rfl lf_X12_28 ?_
        obtain ⟨w54, g57, hf⟩ := am_bd hf
        have key49 : am_S E mX12_lies d mc ms o G2 D2 0 0 293 [(0, .ref 117), (1, .int q1), (2, .int q2), (4, .int q4), (7, .int v7)] [.int w54, .int (q1 + v7), .ref 222] am_G0 D := by
          obtain ⟨D55, g56, hf⟩ := am_bd hf
          refine am_iast2 hE (am_dec tmX12_lies_2 50 rfl) sh_222 g56 ?_
          refine am_iinc (v := (1 : Int32)) (lv' := [(0, .ref 117), (1, .int q1), (2, .int q2), (4, .int q4), (7, .int (v7 + (1 : Int32)))]) (am_dec tmX12_lies_2 51 rfl) rfl (by decide) (by decide) rfl ?_
          refine am_goto (tgt := 209) (am_dec tmX12_lies_2 52 rfl) (by decide) ?_
          exact am_pick [0, 1, 2, 3, 4] rfl (l_X12_lies_L209 hE hdp n (v7 + (1 : Int32)) D55 ex0 hf hk0)
        replace hf := g57
        refine am_icmp_ge (tgt := 291) (am_dec tmX12_lies_2 29 rfl) (by decide) (fun c48 => ?_) (fun c48 => ?_)
        · rw [if_pos c48] at hf
          refine am_iload (am_dec tmX12_lies_2 49 rfl) rfl ?_
          have hf := Option.some.inj hf
          subst hf
          exact am_pick [0, 1, 2, 3, 4] rfl key49
        · rw [if_neg c48] at hf
          refine am_aload_n (am_dec tmX12_lies_2 30 rfl) rfl rfl ?_
          refine am_getR (j := 34) hE (am_dec tmX12_lies_2 31 rfl) sh_117 cf12 (by decide) rfl lf_X12_73 rf_117_34 ?_
          refine am_iload_n (am_dec tmX12_lies_2 32 rfl) rfl rfl ?_
          refine am_iload (am_dec tmX12_lies_2 33 rfl) rfl ?_
          refine am_iadd (am_dec tmX12_lies_2 34 rfl) ?_
          obtain ⟨x50, g51, hf⟩ := am_bd hf
          refine am_iald2 hE (am_dec tmX12_lies_2 35 rfl) sh_222 g51 ?_
          refine am_aload_n (am_dec tmX12_lies_2 36 rfl) rfl rfl ?_
          refine am_getI (j := 15) hE (am_dec tmX12_lies_2 37 rfl) sh_117 cf12 (by decide) rfl lf_X12_28 ?_
          refine am_iload (am_dec tmX12_lies_2 38 rfl) rfl ?_
          refine am_isub (am_dec tmX12_lies_2 39 rfl) ?_
          refine am_imul (am_dec tmX12_lies_2 40 rfl) ?_
          refine am_iload (am_dec tmX12_lies_2 41 rfl) rfl ?_
          refine am_iload (am_dec tmX12_lies_2 42 rfl) rfl ?_
          refine am_imul (am_dec tmX12_lies_2 43 rfl) ?_
          refine am_iadd (am_dec tmX12_lies_2 44 rfl) ?_
          refine am_aload_n (am_dec tmX12_lies_2 45 rfl) rfl rfl ?_
          refine am_getI (j := 15) hE (am_dec tmX12_lies_2 46 rfl) sh_117 cf12 (by decide) rfl lf_X12_28 ?_
          obtain ⟨x52, g53, hf⟩ := am_bd hf
          refine am_idiv2 (am_dec tmX12_lies_2 47 rfl) g53 ?_
          refine am_goto (tgt := 293) (am_dec tmX12_lies_2 48 rfl) (by decide) ?_
          have hf := Option.some.inj hf
          subst hf
          exact am_pick [0, 1, 2, 3, 4] rfl key49
set_option maxRecDepth 100000 in
set_option maxHeartbeats 4000000 in
theorem c_X12_lies {E : am_E} (hE : am_EH E) {p1 : Int32} {D : am_D} {r : am_D}  (hf : f_X12_lies p1 D = some r) : am_C E mX12_lies 3 0 0 [.ref 117, .int p1] am_G0 D (.inl none) am_G0 r := by
  refine am_C_of (by decide +kernel) (Nat.le_of_ble_eq_true rfl) ?_
  change am_S E mX12_lies 3 0 0 (.inl none) am_G0 r 0 0 0 [(0, .ref 117), (1, .int p1)] [] am_G0 D
  unfold f_X12_lies at hf
  refine am_aload_n (am_dec tmX12_lies_0 0 rfl) rfl rfl ?_
  refine am_iload_n (am_dec tmX12_lies_0 1 rfl) rfl rfl ?_
  obtain ⟨x2, g1, hf⟩ := am_bd hf
  refine am_callV1 (As := [.int p1]) (st := []) hE (am_dec tmX12_lies_0 2 rfl) ok_X12_placeNow rfl lm_X12_226 in_X12_placeNow se_X12_placeNow sh_117 cf12 (c_X12_placeNow hE g1) rfl (by decide) (Nat.le_of_ble_eq_true rfl) (Nat.zero_le _) (Nat.zero_le _) rfl ?_
  refine am_istore_n (lv' := [(0, .ref 117), (1, .int p1), (2, .int x2)]) (am_dec tmX12_lies_0 3 rfl) rfl (by decide) rfl ?_
  refine am_aload_n (am_dec tmX12_lies_0 4 rfl) rfl rfl ?_
  refine am_getI (j := 36) hE (am_dec tmX12_lies_0 5 rfl) sh_117 cf12 (by decide) rfl lf_X12_253 ?_
  refine am_aload_n (am_dec tmX12_lies_0 6 rfl) rfl rfl ?_
  refine am_getI (j := 14) hE (am_dec tmX12_lies_0 7 rfl) sh_117 cf12 (by decide) rfl lf_X12_25 ?_
  refine am_isub (am_dec tmX12_lies_0 8 rfl) ?_
  refine am_istore_n (lv' := [(0, .ref 117), (1, .int p1), (2, .int x2), (3, .int ((D.1 117 36) - (D.1 117 14)))]) (am_dec tmX12_lies_0 9 rfl) rfl (by decide) rfl ?_
  refine am_iload_n (am_dec tmX12_lies_0 10 rfl) rfl rfl ?_
  obtain ⟨w6, g62, hf⟩ := am_bd hf
  have key4 : am_S E mX12_lies 3 0 0 (.inl none) am_G0 r 0 0 37 [(0, .ref 117), (1, .int p1), (2, .int x2), (3, .int ((D.1 117 36) - (D.1 117 14)))] [.int w6] am_G0 D := by
    refine am_istore (lv' := [(0, .ref 117), (1, .int p1), (2, .int x2), (3, .int ((D.1 117 36) - (D.1 117 14))), (4, .int w6)]) (am_dec tmX12_lies_0 23 rfl) (by decide) rfl ?_
    refine am_iconst (v := (-1 : Int32)) (am_dec tmX12_lies_0 24 rfl) (by decide) ?_
    refine am_istore (lv' := [(0, .ref 117), (1, .int p1), (2, .int x2), (3, .int ((D.1 117 36) - (D.1 117 14))), (4, .int w6), (5, .int (-1 : Int32))]) (am_dec tmX12_lies_0 25 rfl) (by decide) rfl ?_
    refine am_iconst (v := (0 : Int32)) (am_dec tmX12_lies_0 26 rfl) (by decide) ?_
    refine am_istore (lv' := [(0, .ref 117), (1, .int p1), (2, .int x2), (3, .int ((D.1 117 36) - (D.1 117 14))), (4, .int w6), (5, .int (-1 : Int32)), (6, .int (0 : Int32))]) (am_dec tmX12_lies_0 27 rfl) (by decide) rfl ?_
    refine am_iconst (v := (0 : Int32)) (am_dec tmX12_lies_0 28 rfl) (by decide) ?_
    refine am_istore (lv' := [(0, .ref 117), (1, .int p1), (2, .int x2), (3, .int ((D.1 117 36) - (D.1 117 14))), (4, .int w6), (5, .int (-1 : Int32)), (6, .int (0 : Int32)), (7, .int (0 : Int32))]) (am_dec tmX12_lies_0 29 rfl) (by decide) rfl ?_
    obtain ⟨e24, g61, hf⟩ := am_bd hf
    refine am_pick [0, 1, 2, 3, 4, 5, 6, 7] rfl (l_X12_lies_L48 hE (Nat.le_refl _) am_fu _ _ _ _ _ g61 (fun ex he => ?_))
    subst he
    refine am_aload_n (am_dec tmX12_lies_1 21 rfl) rfl rfl ?_
    refine am_getR (j := 41) hE (am_dec tmX12_lies_1 22 rfl) sh_117 cf12 (by decide) rfl lf_X12_79 rf_117_41 ?_
    refine am_aload_n (am_dec tmX12_lies_1 23 rfl) rfl rfl ?_
    refine am_getI (j := 39) hE (am_dec tmX12_lies_1 24 rfl) sh_117 cf12 (by decide) rfl lf_X12_250 ?_
    obtain ⟨j25, g26, hf⟩ := am_bd hf
    have hj_j25 := (am_gA_lt g26).1
    refine am_aald2 (t := 6) hE (am_dec tmX12_lies_1 25 rfl) sh_224 (by decide) rfl rfl g26 (rr_224 hj_j25) ?_
    refine am_iconst (v := (0 : Int32)) (am_dec tmX12_lies_1 26 rfl) (by decide) ?_
    refine am_iload_n (am_dec tmX12_lies_1 27 rfl) rfl rfl ?_
    obtain ⟨D27, g28, hf⟩ := am_bd hf
    refine am_iast2 hE (am_dec tmX12_lies_1 28 rfl) (sa_224_0 hj_j25) g28 ?_
    refine am_aload_n (am_dec tmX12_lies_1 29 rfl) rfl rfl ?_
    refine am_getR (j := 41) hE (am_dec tmX12_lies_1 30 rfl) sh_117 cf12 (by decide) rfl lf_X12_79 rf_117_41 ?_
    refine am_aload_n (am_dec tmX12_lies_1 31 rfl) rfl rfl ?_
    refine am_getI (j := 39) hE (am_dec tmX12_lies_1 32 rfl) sh_117 cf12 (by decide) rfl lf_X12_250 ?_
    obtain ⟨j29, g30, hf⟩ := am_bd hf
    have hj_j29 := (am_gA_lt g30).1
    refine am_aald2 (t := 6) hE (am_dec tmX12_lies_1 33 rfl) sh_224 (by decide) rfl rfl g30 (rr_224 hj_j29) ?_
    refine am_iconst (v := (1 : Int32)) (am_dec tmX12_lies_1 34 rfl) (by decide) ?_
    refine am_iload (am_dec tmX12_lies_1 35 rfl) rfl ?_
    obtain ⟨D31, g32, hf⟩ := am_bd hf
    refine am_iast2 hE (am_dec tmX12_lies_1 36 rfl) (sa_224_0 hj_j29) g32 ?_
    refine am_aload_n (am_dec tmX12_lies_1 37 rfl) rfl rfl ?_
    refine am_getR (j := 41) hE (am_dec tmX12_lies_1 38 rfl) sh_117 cf12 (by decide) rfl lf_X12_79 rf_117_41 ?_
    refine am_aload_n (am_dec tmX12_lies_1 39 rfl) rfl rfl ?_
    refine am_getI (j := 39) hE (am_dec tmX12_lies_1 40 rfl) sh_117 cf12 (by decide) rfl lf_X12_250 ?_
    obtain ⟨j33, g34, hf⟩ := am_bd hf
    have hj_j33 := (am_gA_lt g34).1
    refine am_aald2 (t := 6) hE (am_dec tmX12_lies_1 41 rfl) sh_224 (by decide) rfl rfl g34 (rr_224 hj_j33) ?_
    refine am_iconst (v := (2 : Int32)) (am_dec tmX12_lies_1 42 rfl) (by decide) ?_
    refine am_iload (am_dec tmX12_lies_1 43 rfl) rfl ?_
    obtain ⟨w39, g60, hf⟩ := am_bd hf
    have key36 : am_S E mX12_lies 3 0 0 (.inl none) am_G0 r 0 0 195 [(0, .ref 117), (1, .int p1), (2, .int x2), (4, .int e24.1)] [.int w39, .int (2 : Int32), .ref (225 + j33)] am_G0 D31 := by
      obtain ⟨D40, g41, hf⟩ := am_bd hf
      refine am_iast2 hE (am_dec tmX12_lies_1 53 rfl) (sa_224_0 hj_j33) g41 ?_
      refine am_aload_n (am_dec tmX12_lies_1 54 rfl) rfl rfl ?_
      refine am_dup (am_dec tmX12_lies_1 55 rfl) rfl ?_
      refine am_getI (j := 39) hE (am_dec tmX12_lies_1 56 rfl) sh_117 cf12 (by decide) rfl lf_X12_250 ?_
      refine am_iconst (v := (1 : Int32)) (am_dec tmX12_lies_1 57 rfl) (by decide) ?_
      refine am_iadd (am_dec tmX12_lies_1 58 rfl) ?_
      obtain ⟨D42, g43, hf⟩ := am_bd hf
      refine am_putI2 (j := 39) hE (am_dec tmX12_lies_1 59 rfl) sh_117 cf12 (by decide) rfl lf_X12_250 rfl rfl rfl g43 ?_
      refine am_iconst (v := (0 : Int32)) (am_dec tmX12_lies_2 0 rfl) (by decide) ?_
      refine am_istore (lv' := [(0, .ref 117), (1, .int p1), (2, .int x2), (4, .int e24.1), (7, .int (0 : Int32))]) (am_dec tmX12_lies_2 1 rfl) (by decide) rfl ?_
      obtain ⟨e58, g59, hf⟩ := am_bd hf
      refine am_pick [0, 1, 2, 3, 4] rfl (l_X12_lies_L209 hE (Nat.le_refl _) am_fu _ _ _ g59 (fun ex he => ?_))
      subst he
      have hf := Option.some.inj hf
      subst hf
      exact am_vret (am_dec tmX12_lies_2 53 rfl) rfl (Nat.zero_le _) (Nat.zero_le _)
    replace hf := g60
    refine am_if_eq (tgt := 186) (am_dec tmX12_lies_1 44 rfl) (by decide) (fun c35 => ?_) (fun c35 => ?_)
    · rw [if_pos c35] at hf
      refine am_aload_n (am_dec tmX12_lies_1 47 rfl) rfl rfl ?_
      refine am_iload_n (am_dec tmX12_lies_1 48 rfl) rfl rfl ?_
      refine am_iload_n (am_dec tmX12_lies_1 49 rfl) rfl rfl ?_
      refine am_iload (am_dec tmX12_lies_1 50 rfl) rfl ?_
      refine am_iadd (am_dec tmX12_lies_1 51 rfl) ?_
      obtain ⟨x38, g37, hf⟩ := am_bd hf
      refine am_callV1 (As := [.int p1, .int (x2 + e24.1)]) (st := [.int (2 : Int32), .ref (225 + j33)]) hE (am_dec tmX12_lies_1 52 rfl) ok_X12_unlike rfl lm_X12_287 in_X12_unlike se_X12_unlike sh_117 cf12 (c_X12_unlike hE g37) rfl (by decide) (Nat.le_of_ble_eq_true rfl) (Nat.zero_le _) (Nat.zero_le _) rfl ?_
      have hf := Option.some.inj hf
      subst hf
      exact am_pick [0, 1, 2, 3] rfl key36
    · rw [if_neg c35] at hf
      refine am_iload (am_dec tmX12_lies_1 45 rfl) rfl ?_
      refine am_goto (tgt := 195) (am_dec tmX12_lies_1 46 rfl) (by decide) ?_
      have hf := Option.some.inj hf
      subst hf
      exact am_pick [0, 1, 2, 3] rfl key36
  replace hf := g62
  refine am_if_ge (tgt := 25) (am_dec tmX12_lies_0 11 rfl) (by decide) (fun c3 => ?_) (fun c3 => ?_)
  · rw [if_pos c3] at hf
    refine am_iload_n (am_dec tmX12_lies_0 15 rfl) rfl rfl ?_
    refine am_iload_n (am_dec tmX12_lies_0 16 rfl) rfl rfl ?_
    refine am_icmp_le (tgt := 36) (am_dec tmX12_lies_0 17 rfl) (by decide) (fun c5 => ?_) (fun c5 => ?_)
    · rw [if_pos c5] at hf
      refine am_iconst (v := (0 : Int32)) (am_dec tmX12_lies_0 22 rfl) (by decide) ?_
      have hf := Option.some.inj hf
      subst hf
      exact am_pick [0, 1, 2, 3] rfl key4
    · rw [if_neg c5] at hf
      refine am_iload_n (am_dec tmX12_lies_0 18 rfl) rfl rfl ?_
      refine am_iload_n (am_dec tmX12_lies_0 19 rfl) rfl rfl ?_
      refine am_isub (am_dec tmX12_lies_0 20 rfl) ?_
      refine am_goto (tgt := 37) (am_dec tmX12_lies_0 21 rfl) (by decide) ?_
      have hf := Option.some.inj hf
      subst hf
      exact am_pick [0, 1, 2, 3] rfl key4
  · rw [if_neg c3] at hf
    refine am_iload_n (am_dec tmX12_lies_0 12 rfl) rfl rfl ?_
    refine am_ineg (am_dec tmX12_lies_0 13 rfl) ?_
    refine am_goto (tgt := 37) (am_dec tmX12_lies_0 14 rfl) (by decide) ?_
    have hf := Option.some.inj hf
    subst hf
    exact am_pick [0, 1, 2, 3] rfl key4
def f_X12_draws_L20  : Nat → Int32 → am_D → Option (am_D)
  | 0, _, _ => none
  | n + 1, v1, D =>
    if (D.1 117 14) ≤ v1 then
    some (D)
    else
    if (D.1 117 38) ≤ v1 then
    some (D)
    else
    (am_gI D 221 1200 v1).bind fun x11 =>
    (am_pI D 222 1200 v1 x11).bind fun D13 =>
    f_X12_draws_L20 n (v1 + (1 : Int32)) D13
def f_X12_draws_L64  : Nat → Int32 → am_D → Option (am_D)
  | 0, _, _ => none
  | n + 1, v1, D =>
    if (D.1 117 38) ≤ v1 then
    some (D)
    else
    (f_X12_lies v1 D).bind fun x18 =>
    f_X12_draws_L64 n (v1 + ((x18.1 117 14) - (x18.1 117 15))) x18
def f_X12_draws (D : am_D) : Option (am_D) :=
    (f_X12_lengthNow D).bind fun x2 =>
    (some (am_wI D 117 38 x2)).bind fun D3 =>
    (some (am_wI D3 117 39 (0 : Int32))).bind fun D5 =>
    (some (am_wI D5 117 40 (1 : Int32))).bind fun D7 =>
    (f_X12_draws_L20 am_fu (0 : Int32) D7).bind fun e15 =>
    (f_X12_draws_L64 am_fu ((e15.1 117 14) - (e15.1 117 15)) e15).bind fun e19 =>
    some e19
set_option maxRecDepth 100000 in
set_option maxHeartbeats 4000000 in
theorem l_X12_draws_L20 {E : am_E} (hE : am_EH E) {d mc ms : Nat} {o : am_O} {G2 : am_G} {D2 : am_D} (hdp : 4 ≤ d)   : ∀ (n : Nat) (v1 : Int32) (D : am_D) (ex0 : am_D), f_X12_draws_L20  n v1 D = some ex0 → (∀ ex : am_D, ex0 = ex → am_S E mX12_draws d mc ms o G2 D2 0 0 54 [(0, .ref 117)] [] am_G0 ex) → am_S E mX12_draws d mc ms o G2 D2 0 0 20 [(0, .ref 117), (1, .int v1)] [] am_G0 D
  | 0, _, _, _, hf, _ => by
    unfold f_X12_draws_L20 at hf
    cases hf
  | n + 1, v1, D, ex0, hf, hk0 => by
    unfold f_X12_draws_L20 at hf
    refine am_iload_n (am_dec tmX12_draws 12 rfl) rfl rfl ?_
    refine am_aload_n (am_dec tmX12_draws 13 rfl) rfl rfl ?_
    refine am_getI (j := 14) hE (am_dec tmX12_draws 14 rfl) sh_117 cf12 (by decide) rfl lf_X12_25 ?_
    refine am_icmp_ge (tgt := 54) (am_dec tmX12_draws 15 rfl) (by decide) (fun c9 => ?_) (fun c9 => ?_)
    · rw [if_pos c9] at hf
      have hf := Option.some.inj hf
      subst hf
      exact am_pick [0] rfl (hk0 _ rfl)
    · rw [if_neg c9] at hf
      refine am_iload_n (am_dec tmX12_draws 16 rfl) rfl rfl ?_
      refine am_aload_n (am_dec tmX12_draws 17 rfl) rfl rfl ?_
      refine am_getI (j := 38) hE (am_dec tmX12_draws 18 rfl) sh_117 cf12 (by decide) rfl lf_X12_262 ?_
      refine am_icmp_ge (tgt := 54) (am_dec tmX12_draws 19 rfl) (by decide) (fun c10 => ?_) (fun c10 => ?_)
      · rw [if_pos c10] at hf
        have hf := Option.some.inj hf
        subst hf
        exact am_pick [0] rfl (hk0 _ rfl)
      · rw [if_neg c10] at hf
        refine am_aload_n (am_dec tmX12_draws 20 rfl) rfl rfl ?_
        refine am_getR (j := 34) hE (am_dec tmX12_draws 21 rfl) sh_117 cf12 (by decide) rfl lf_X12_73 rf_117_34 ?_
        refine am_iload_n (am_dec tmX12_draws 22 rfl) rfl rfl ?_
        refine am_aload_n (am_dec tmX12_draws 23 rfl) rfl rfl ?_
        refine am_getR (j := 33) hE (am_dec tmX12_draws 24 rfl) sh_117 cf12 (by decide) rfl lf_X12_70 rf_117_33 ?_
        refine am_iload_n (am_dec tmX12_draws 25 rfl) rfl rfl ?_
        obtain ⟨x11, g12, hf⟩ := am_bd hf
        refine am_iald2 hE (am_dec tmX12_draws 26 rfl) sh_221 g12 ?_
        obtain ⟨D13, g14, hf⟩ := am_bd hf
        refine am_iast2 hE (am_dec tmX12_draws 27 rfl) sh_222 g14 ?_
        refine am_iinc (v := (1 : Int32)) (lv' := [(0, .ref 117), (1, .int (v1 + (1 : Int32)))]) (am_dec tmX12_draws 28 rfl) rfl (by decide) (by decide) rfl ?_
        refine am_goto (tgt := 20) (am_dec tmX12_draws 29 rfl) (by decide) ?_
        exact am_pick [0, 1] rfl (l_X12_draws_L20 hE hdp n (v1 + (1 : Int32)) D13 ex0 hf hk0)
set_option maxRecDepth 100000 in
set_option maxHeartbeats 4000000 in
theorem l_X12_draws_L64 {E : am_E} (hE : am_EH E) {d mc ms : Nat} {o : am_O} {G2 : am_G} {D2 : am_D} (hdp : 4 ≤ d)   : ∀ (n : Nat) (v1 : Int32) (D : am_D) (ex0 : am_D), f_X12_draws_L64  n v1 D = some ex0 → (∀ ex : am_D, ex0 = ex → am_S E mX12_draws d mc ms o G2 D2 0 0 92 [] [] am_G0 ex) → am_S E mX12_draws d mc ms o G2 D2 0 0 64 [(0, .ref 117), (1, .int v1)] [] am_G0 D
  | 0, _, _, _, hf, _ => by
    unfold f_X12_draws_L64 at hf
    cases hf
  | n + 1, v1, D, ex0, hf, hk0 => by
    unfold f_X12_draws_L64 at hf
    refine am_iload_n (am_dec tmX12_draws 36 rfl) rfl rfl ?_
    refine am_aload_n (am_dec tmX12_draws 37 rfl) rfl rfl ?_
    refine am_getI (j := 38) hE (am_dec tmX12_draws 38 rfl) sh_117 cf12 (by decide) rfl lf_X12_262 ?_
    refine am_icmp_ge (tgt := 92) (am_dec tmX12_draws 39 rfl) (by decide) (fun c16 => ?_) (fun c16 => ?_)
    · rw [if_pos c16] at hf
      have hf := Option.some.inj hf
      subst hf
      exact am_pick [] rfl (hk0 _ rfl)
    · rw [if_neg c16] at hf
      refine am_aload_n (am_dec tmX12_draws 40 rfl) rfl rfl ?_
      refine am_iload_n (am_dec tmX12_draws 41 rfl) rfl rfl ?_
      obtain ⟨x18, g17, hf⟩ := am_bd hf
      refine am_callV0 (As := [.int v1]) (st := []) hE (am_dec tmX12_draws 42 rfl) ok_X12_lies rfl lm_X12_284 in_X12_lies se_X12_lies sh_117 cf12 (c_X12_lies hE g17) rfl (Nat.lt_of_lt_of_le (by decide) hdp) (Nat.le_of_ble_eq_true rfl) (Nat.zero_le _) (Nat.zero_le _) rfl ?_
      refine am_iload_n (am_dec tmX12_draws 43 rfl) rfl rfl ?_
      refine am_aload_n (am_dec tmX12_draws 44 rfl) rfl rfl ?_
      refine am_getI (j := 14) hE (am_dec tmX12_draws 45 rfl) sh_117 cf12 (by decide) rfl lf_X12_25 ?_
      refine am_aload_n (am_dec tmX12_draws 46 rfl) rfl rfl ?_
      refine am_getI (j := 15) hE (am_dec tmX12_draws 47 rfl) sh_117 cf12 (by decide) rfl lf_X12_28 ?_
      refine am_isub (am_dec tmX12_draws 48 rfl) ?_
      refine am_iadd (am_dec tmX12_draws 49 rfl) ?_
      refine am_istore_n (lv' := [(0, .ref 117), (1, .int (v1 + ((x18.1 117 14) - (x18.1 117 15))))]) (am_dec tmX12_draws 50 rfl) rfl (by decide) rfl ?_
      refine am_goto (tgt := 64) (am_dec tmX12_draws 51 rfl) (by decide) ?_
      exact am_pick [0, 1] rfl (l_X12_draws_L64 hE hdp n (v1 + ((x18.1 117 14) - (x18.1 117 15))) x18 ex0 hf hk0)
set_option maxRecDepth 100000 in
set_option maxHeartbeats 4000000 in
theorem c_X12_draws {E : am_E} (hE : am_EH E) {D : am_D} {r : am_D}  (hf : f_X12_draws D = some r) : am_C E mX12_draws 4 0 0 [.ref 117] am_G0 D (.inl none) am_G0 r := by
  refine am_C_of (by decide +kernel) (Nat.le_of_ble_eq_true rfl) ?_
  change am_S E mX12_draws 4 0 0 (.inl none) am_G0 r 0 0 0 [(0, .ref 117)] [] am_G0 D
  unfold f_X12_draws at hf
  refine am_aload_n (am_dec tmX12_draws 0 rfl) rfl rfl ?_
  refine am_aload_n (am_dec tmX12_draws 1 rfl) rfl rfl ?_
  obtain ⟨x2, g1, hf⟩ := am_bd hf
  refine am_callV1 (As := []) (st := [.ref 117]) hE (am_dec tmX12_draws 2 rfl) ok_X12_lengthNow rfl lm_X12_223 in_X12_lengthNow se_X12_lengthNow sh_117 cf12 (c_X12_lengthNow hE g1) rfl (by decide) (Nat.le_of_ble_eq_true rfl) (Nat.zero_le _) (Nat.zero_le _) rfl ?_
  obtain ⟨D3, g4, hf⟩ := am_bd hf
  refine am_putI2 (j := 38) hE (am_dec tmX12_draws 3 rfl) sh_117 cf12 (by decide) rfl lf_X12_262 rfl rfl rfl g4 ?_
  refine am_aload_n (am_dec tmX12_draws 4 rfl) rfl rfl ?_
  refine am_iconst (v := (0 : Int32)) (am_dec tmX12_draws 5 rfl) (by decide) ?_
  obtain ⟨D5, g6, hf⟩ := am_bd hf
  refine am_putI2 (j := 39) hE (am_dec tmX12_draws 6 rfl) sh_117 cf12 (by decide) rfl lf_X12_250 rfl rfl rfl g6 ?_
  refine am_aload_n (am_dec tmX12_draws 7 rfl) rfl rfl ?_
  refine am_iconst (v := (1 : Int32)) (am_dec tmX12_draws 8 rfl) (by decide) ?_
  obtain ⟨D7, g8, hf⟩ := am_bd hf
  refine am_putI2 (j := 40) hE (am_dec tmX12_draws 9 rfl) sh_117 cf12 (by decide) rfl lf_X12_271 rfl rfl rfl g8 ?_
  refine am_iconst (v := (0 : Int32)) (am_dec tmX12_draws 10 rfl) (by decide) ?_
  refine am_istore_n (lv' := [(0, .ref 117), (1, .int (0 : Int32))]) (am_dec tmX12_draws 11 rfl) rfl (by decide) rfl ?_
  obtain ⟨e15, g21, hf⟩ := am_bd hf
  refine am_pick [0, 1] rfl (l_X12_draws_L20 hE (Nat.le_refl _) am_fu _ _ _ g21 (fun ex he => ?_))
  subst he
  refine am_aload_n (am_dec tmX12_draws 30 rfl) rfl rfl ?_
  refine am_getI (j := 14) hE (am_dec tmX12_draws 31 rfl) sh_117 cf12 (by decide) rfl lf_X12_25 ?_
  refine am_aload_n (am_dec tmX12_draws 32 rfl) rfl rfl ?_
  refine am_getI (j := 15) hE (am_dec tmX12_draws 33 rfl) sh_117 cf12 (by decide) rfl lf_X12_28 ?_
  refine am_isub (am_dec tmX12_draws 34 rfl) ?_
  refine am_istore_n (lv' := [(0, .ref 117), (1, .int ((e15.1 117 14) - (e15.1 117 15)))]) (am_dec tmX12_draws 35 rfl) rfl (by decide) rfl ?_
  obtain ⟨e19, g20, hf⟩ := am_bd hf
  refine am_pick [0, 1] rfl (l_X12_draws_L64 hE (Nat.le_refl _) am_fu _ _ _ g20 (fun ex he => ?_))
  subst he
  have hf := Option.some.inj hf
  subst hf
  exact am_vret (am_dec tmX12_draws 52 rfl) rfl (Nat.zero_le _) (Nat.zero_le _)
def f_X12_takesSound_L12 (q1 : Int32) : Nat → Int32 → am_D → Option (am_D)
  | 0, _, _ => none
  | n + 1, v2, D =>
    if (D.1 117 36) ≤ v2 then
    some (D)
    else
    (am_gA 5 q1).bind fun j6 =>
    (am_gI D (134 + j6) 600 v2).bind fun x8 =>
    (am_pI D 221 1200 v2 x8).bind fun D10 =>
    f_X12_takesSound_L12 q1 n (v2 + (1 : Int32)) D10
def f_X12_takesSound (p1 : Int32) (D : am_D) : Option (am_D) :=
    (am_gI D 139 5 p1).bind fun x1 =>
    (some (am_wI D 117 36 x1)).bind fun D3 =>
    (f_X12_takesSound_L12 p1 am_fu (0 : Int32) D3).bind fun e12 =>
    some e12
set_option maxRecDepth 100000 in
set_option maxHeartbeats 4000000 in
theorem l_X12_takesSound_L12 {E : am_E} (hE : am_EH E) {d mc ms : Nat} {o : am_O} {G2 : am_G} {D2 : am_D} (hdp : 1 ≤ d) {q1 : Int32}  : ∀ (n : Nat) (v2 : Int32) (D : am_D) (ex0 : am_D), f_X12_takesSound_L12 q1 n v2 D = some ex0 → (∀ ex : am_D, ex0 = ex → am_S E mX12_takesSound d mc ms o G2 D2 0 0 40 [] [] am_G0 ex) → am_S E mX12_takesSound d mc ms o G2 D2 0 0 12 [(0, .ref 117), (1, .int q1), (2, .int v2)] [] am_G0 D
  | 0, _, _, _, hf, _ => by
    unfold f_X12_takesSound_L12 at hf
    cases hf
  | n + 1, v2, D, ex0, hf, hk0 => by
    unfold f_X12_takesSound_L12 at hf
    refine am_iload_n (am_dec tmX12_takesSound 8 rfl) rfl rfl ?_
    refine am_aload_n (am_dec tmX12_takesSound 9 rfl) rfl rfl ?_
    refine am_getI (j := 36) hE (am_dec tmX12_takesSound 10 rfl) sh_117 cf12 (by decide) rfl lf_X12_253 ?_
    refine am_icmp_ge (tgt := 40) (am_dec tmX12_takesSound 11 rfl) (by decide) (fun c5 => ?_) (fun c5 => ?_)
    · rw [if_pos c5] at hf
      have hf := Option.some.inj hf
      subst hf
      exact am_pick [] rfl (hk0 _ rfl)
    · rw [if_neg c5] at hf
      refine am_aload_n (am_dec tmX12_takesSound 12 rfl) rfl rfl ?_
      refine am_getR (j := 33) hE (am_dec tmX12_takesSound 13 rfl) sh_117 cf12 (by decide) rfl lf_X12_70 rf_117_33 ?_
      refine am_iload_n (am_dec tmX12_takesSound 14 rfl) rfl rfl ?_
      refine am_aload_n (am_dec tmX12_takesSound 15 rfl) rfl rfl ?_
      refine am_getR (j := 24) hE (am_dec tmX12_takesSound 16 rfl) sh_117 cf12 (by decide) rfl lf_X12_43 rf_117_24 ?_
      refine am_iload_n (am_dec tmX12_takesSound 17 rfl) rfl rfl ?_
      obtain ⟨j6, g7, hf⟩ := am_bd hf
      have hj_j6 := (am_gA_lt g7).1
      refine am_aald2 (t := 6) hE (am_dec tmX12_takesSound 18 rfl) sh_133 (by decide) rfl rfl g7 (rr_133 hj_j6) ?_
      refine am_iload_n (am_dec tmX12_takesSound 19 rfl) rfl rfl ?_
      obtain ⟨x8, g9, hf⟩ := am_bd hf
      refine am_iald2 hE (am_dec tmX12_takesSound 20 rfl) (sa_133_0 hj_j6) g9 ?_
      obtain ⟨D10, g11, hf⟩ := am_bd hf
      refine am_iast2 hE (am_dec tmX12_takesSound 21 rfl) sh_221 g11 ?_
      refine am_iinc (v := (1 : Int32)) (lv' := [(0, .ref 117), (1, .int q1), (2, .int (v2 + (1 : Int32)))]) (am_dec tmX12_takesSound 22 rfl) rfl (by decide) (by decide) rfl ?_
      refine am_goto (tgt := 12) (am_dec tmX12_takesSound 23 rfl) (by decide) ?_
      exact am_pick [0, 1, 2] rfl (l_X12_takesSound_L12 hE hdp n (v2 + (1 : Int32)) D10 ex0 hf hk0)
set_option maxRecDepth 100000 in
set_option maxHeartbeats 4000000 in
theorem c_X12_takesSound {E : am_E} (hE : am_EH E) {p1 : Int32} {D : am_D} {r : am_D}  (hf : f_X12_takesSound p1 D = some r) : am_C E mX12_takesSound 1 0 0 [.ref 117, .int p1] am_G0 D (.inl none) am_G0 r := by
  refine am_C_of (by decide +kernel) (Nat.le_of_ble_eq_true rfl) ?_
  change am_S E mX12_takesSound 1 0 0 (.inl none) am_G0 r 0 0 0 [(0, .ref 117), (1, .int p1)] [] am_G0 D
  unfold f_X12_takesSound at hf
  refine am_aload_n (am_dec tmX12_takesSound 0 rfl) rfl rfl ?_
  refine am_aload_n (am_dec tmX12_takesSound 1 rfl) rfl rfl ?_
  refine am_getR (j := 25) hE (am_dec tmX12_takesSound 2 rfl) sh_117 cf12 (by decide) rfl lf_X12_46 rf_117_25 ?_
  refine am_iload_n (am_dec tmX12_takesSound 3 rfl) rfl rfl ?_
  obtain ⟨x1, g2, hf⟩ := am_bd hf
  refine am_iald2 hE (am_dec tmX12_takesSound 4 rfl) sh_139 g2 ?_
  obtain ⟨D3, g4, hf⟩ := am_bd hf
  refine am_putI2 (j := 36) hE (am_dec tmX12_takesSound 5 rfl) sh_117 cf12 (by decide) rfl lf_X12_253 rfl rfl rfl g4 ?_
  refine am_iconst (v := (0 : Int32)) (am_dec tmX12_takesSound 6 rfl) (by decide) ?_
  refine am_istore_n (lv' := [(0, .ref 117), (1, .int p1), (2, .int (0 : Int32))]) (am_dec tmX12_takesSound 7 rfl) rfl (by decide) rfl ?_
  obtain ⟨e12, g13, hf⟩ := am_bd hf
  refine am_pick [0, 1, 2] rfl (l_X12_takesSound_L12 hE (Nat.le_refl _) am_fu _ _ _ g13 (fun ex he => ?_))
  subst he
  have hf := Option.some.inj hf
  subst hf
  exact am_vret (am_dec tmX12_takesSound 24 rfl) rfl (Nat.zero_le _) (Nat.zero_le _)
def f_X12_isShort (p1 : Int32) (p2 : Int32) (D : am_D) : Option (Int32) :=
    (am_gI D 139 5 p1).bind fun x1 =>
    if x1 < (D.1 117 14) then
    some (1 : Int32)
    else
    (am_gI D 139 5 p1).bind fun x4 =>
    (f_X12_lastOf p2 D).bind fun x7 =>
    if x7 ≤ x4 then
    some (0 : Int32)
    else
    some (1 : Int32)
set_option maxRecDepth 100000 in
set_option maxHeartbeats 4000000 in
theorem c_X12_isShort {E : am_E} (hE : am_EH E) {p1 : Int32} {p2 : Int32} {D : am_D} {r : Int32}  (hf : f_X12_isShort p1 p2 D = some r) : am_C E mX12_isShort 2 0 0 [.ref 117, .int p1, .int p2] am_G0 D (.inl (some (.int r))) am_G0 D := by
  refine am_C_of (by decide +kernel) (Nat.le_of_ble_eq_true rfl) ?_
  change am_S E mX12_isShort 2 0 0 (.inl (some (.int r))) am_G0 D 0 0 0 [(0, .ref 117), (1, .int p1), (2, .int p2)] [] am_G0 D
  unfold f_X12_isShort at hf
  refine am_aload_n (am_dec tmX12_isShort 0 rfl) rfl rfl ?_
  refine am_getR (j := 25) hE (am_dec tmX12_isShort 1 rfl) sh_117 cf12 (by decide) rfl lf_X12_46 rf_117_25 ?_
  refine am_iload_n (am_dec tmX12_isShort 2 rfl) rfl rfl ?_
  obtain ⟨x1, g2, hf⟩ := am_bd hf
  refine am_iald2 hE (am_dec tmX12_isShort 3 rfl) sh_139 g2 ?_
  refine am_aload_n (am_dec tmX12_isShort 4 rfl) rfl rfl ?_
  refine am_getI (j := 14) hE (am_dec tmX12_isShort 5 rfl) sh_117 cf12 (by decide) rfl lf_X12_25 ?_
  refine am_icmp_lt (tgt := 27) (am_dec tmX12_isShort 6 rfl) (by decide) (fun c3 => ?_) (fun c3 => ?_)
  · rw [if_pos c3] at hf
    refine am_iconst (v := (1 : Int32)) (am_dec tmX12_isShort 15 rfl) (by decide) ?_
    refine am_goto (tgt := 32) (am_dec tmX12_isShort 16 rfl) (by decide) ?_
    have hf := Option.some.inj hf
    subst hf
    exact am_zret (am_dec tmX12_isShort 18 rfl) rfl am_z1 (Nat.zero_le _) (Nat.zero_le _)
  · rw [if_neg c3] at hf
    refine am_aload_n (am_dec tmX12_isShort 7 rfl) rfl rfl ?_
    refine am_getR (j := 25) hE (am_dec tmX12_isShort 8 rfl) sh_117 cf12 (by decide) rfl lf_X12_46 rf_117_25 ?_
    refine am_iload_n (am_dec tmX12_isShort 9 rfl) rfl rfl ?_
    obtain ⟨x4, g5, hf⟩ := am_bd hf
    refine am_iald2 hE (am_dec tmX12_isShort 10 rfl) sh_139 g5 ?_
    refine am_aload_n (am_dec tmX12_isShort 11 rfl) rfl rfl ?_
    refine am_iload_n (am_dec tmX12_isShort 12 rfl) rfl rfl ?_
    obtain ⟨x7, g6, hf⟩ := am_bd hf
    refine am_callV1 (As := [.int p2]) (st := [.int x4]) hE (am_dec tmX12_isShort 13 rfl) ok_X12_lastOf rfl lm_X12_235 in_X12_lastOf se_X12_lastOf sh_117 cf12 (c_X12_lastOf hE g6) rfl (by decide) (Nat.le_of_ble_eq_true rfl) (Nat.zero_le _) (Nat.zero_le _) rfl ?_
    refine am_icmp_ge (tgt := 31) (am_dec tmX12_isShort 14 rfl) (by decide) (fun c8 => ?_) (fun c8 => ?_)
    · rw [if_pos c8] at hf
      refine am_iconst (v := (0 : Int32)) (am_dec tmX12_isShort 17 rfl) (by decide) ?_
      have hf := Option.some.inj hf
      subst hf
      exact am_zret (am_dec tmX12_isShort 18 rfl) rfl am_z0 (Nat.zero_le _) (Nat.zero_le _)
    · rw [if_neg c8] at hf
      refine am_iconst (v := (1 : Int32)) (am_dec tmX12_isShort 15 rfl) (by decide) ?_
      refine am_goto (tgt := 32) (am_dec tmX12_isShort 16 rfl) (by decide) ?_
      have hf := Option.some.inj hf
      subst hf
      exact am_zret (am_dec tmX12_isShort 18 rfl) rfl am_z1 (Nat.zero_le _) (Nat.zero_le _)
theorem z_X12_isShort {p1 : Int32} {p2 : Int32} {D : am_D} {r : Int32} (hf : f_X12_isShort p1 p2 D = some r) : narrow .boolean (.int r) = .int r := by
  unfold f_X12_isShort at hf
  obtain ⟨x1, g2, hf⟩ := am_bd hf
  by_cases c3 : x1 < (D.1 117 14)
  · rw [if_pos c3] at hf
    have hf := Option.some.inj hf
    subst hf
    exact am_z1
  · rw [if_neg c3] at hf
    obtain ⟨x4, g5, hf⟩ := am_bd hf
    obtain ⟨x7, g6, hf⟩ := am_bd hf
    by_cases c8 : x7 ≤ x4
    · rw [if_pos c8] at hf
      have hf := Option.some.inj hf
      subst hf
      exact am_z0
    · rw [if_neg c8] at hf
      have hf := Option.some.inj hf
      subst hf
      exact am_z1
def f_X12_badBoth (p1 : Int32) (p2 : Int32) (D : am_D) : Option ((Int32 × am_D)) :=
    (f_X12_isSound p1 D).bind fun x2 =>
    (if x2 = 0 then
    some ((1 : Int32))
    else
    some ((0 : Int32))).bind fun w5 =>
    (f_X12_bad w5 (1 : Int32) D).bind fun x7 =>
    if x7.1 = 0 then
    (f_X12_isMap p2 x7.2).bind fun x10 =>
    (if x10 = 0 then
    some ((1 : Int32))
    else
    some ((0 : Int32))).bind fun w13 =>
    (f_X12_bad w13 (2 : Int32) x7.2).bind fun x15 =>
    if x15.1 = 0 then
    some ((0 : Int32), x15.2)
    else
    some ((1 : Int32), x15.2)
    else
    some ((1 : Int32), x7.2)
set_option maxRecDepth 100000 in
set_option maxHeartbeats 4000000 in
theorem c_X12_badBoth {E : am_E} (hE : am_EH E) {p1 : Int32} {p2 : Int32} {D : am_D} {r : (Int32 × am_D)}  (hf : f_X12_badBoth p1 p2 D = some r) : am_C E mX12_badBoth 3 0 0 [.ref 117, .int p1, .int p2] am_G0 D (.inl (some (.int r.1))) am_G0 r.2 := by
  refine am_C_of (by decide +kernel) (Nat.le_of_ble_eq_true rfl) ?_
  change am_S E mX12_badBoth 3 0 0 (.inl (some (.int r.1))) am_G0 r.2 0 0 0 [(0, .ref 117), (1, .int p1), (2, .int p2)] [] am_G0 D
  unfold f_X12_badBoth at hf
  refine am_aload_n (am_dec tmX12_badBoth 0 rfl) rfl rfl ?_
  refine am_aload_n (am_dec tmX12_badBoth 1 rfl) rfl rfl ?_
  refine am_iload_n (am_dec tmX12_badBoth 2 rfl) rfl rfl ?_
  obtain ⟨x2, g1, hf⟩ := am_bd hf
  refine am_callV1 (As := [.int p1]) (st := [.ref 117]) hE (am_dec tmX12_badBoth 3 rfl) ok_X12_isSound rfl lm_X12_217 in_X12_isSound se_X12_isSound sh_117 cf12 (c_X12_isSound hE g1) rfl (by decide) (Nat.le_of_ble_eq_true rfl) (Nat.zero_le _) (Nat.zero_le _) rfl ?_
  obtain ⟨w5, g18, hf⟩ := am_bd hf
  have key4 : am_S E mX12_badBoth 3 0 0 (.inl (some (.int r.1))) am_G0 r.2 0 0 14 [(0, .ref 117), (2, .int p2)] [.int w5, .ref 117] am_G0 D := by
    refine am_iconst (v := (1 : Int32)) (am_dec tmX12_badBoth 8 rfl) (by decide) ?_
    obtain ⟨x7, g6, hf⟩ := am_bd hf
    refine am_callV1 (As := [.int w5, .int (1 : Int32)]) (st := []) hE (am_dec tmX12_badBoth 9 rfl) ok_X12_bad rfl lm_X12_191 in_X12_bad se_X12_bad sh_117 cf12 (c_X12_bad hE g6) rfl (by decide) (Nat.le_of_ble_eq_true rfl) (Nat.zero_le _) (Nat.zero_le _) rfl ?_
    refine am_if_ne (tgt := 42) (am_dec tmX12_badBoth 10 rfl) (by decide) (fun c8 => ?_) (fun c8 => ?_)
    · rw [if_neg c8] at hf
      refine am_iconst (v := (1 : Int32)) (am_dec tmX12_badBoth 22 rfl) (by decide) ?_
      refine am_goto (tgt := 47) (am_dec tmX12_badBoth 23 rfl) (by decide) ?_
      have hf := Option.some.inj hf
      subst hf
      exact am_zret (am_dec tmX12_badBoth 25 rfl) rfl am_z1 (Nat.zero_le _) (Nat.zero_le _)
    · rw [if_pos c8] at hf
      refine am_aload_n (am_dec tmX12_badBoth 11 rfl) rfl rfl ?_
      refine am_aload_n (am_dec tmX12_badBoth 12 rfl) rfl rfl ?_
      refine am_iload_n (am_dec tmX12_badBoth 13 rfl) rfl rfl ?_
      obtain ⟨x10, g9, hf⟩ := am_bd hf
      refine am_callV1 (As := [.int p2]) (st := [.ref 117]) hE (am_dec tmX12_badBoth 14 rfl) ok_X12_isMap rfl lm_X12_229 in_X12_isMap se_X12_isMap sh_117 cf12 (c_X12_isMap hE g9) rfl (by decide) (Nat.le_of_ble_eq_true rfl) (Nat.zero_le _) (Nat.zero_le _) rfl ?_
      obtain ⟨w13, g17, hf⟩ := am_bd hf
      have key12 : am_S E mX12_badBoth 3 0 0 (.inl (some (.int r.1))) am_G0 r.2 0 0 35 [] [.int w13, .ref 117] am_G0 x7.2 := by
        refine am_iconst (v := (2 : Int32)) (am_dec tmX12_badBoth 19 rfl) (by decide) ?_
        obtain ⟨x15, g14, hf⟩ := am_bd hf
        refine am_callV1 (As := [.int w13, .int (2 : Int32)]) (st := []) hE (am_dec tmX12_badBoth 20 rfl) ok_X12_bad rfl lm_X12_191 in_X12_bad se_X12_bad sh_117 cf12 (c_X12_bad hE g14) rfl (by decide) (Nat.le_of_ble_eq_true rfl) (Nat.zero_le _) (Nat.zero_le _) rfl ?_
        refine am_if_eq (tgt := 46) (am_dec tmX12_badBoth 21 rfl) (by decide) (fun c16 => ?_) (fun c16 => ?_)
        · rw [if_pos c16] at hf
          refine am_iconst (v := (0 : Int32)) (am_dec tmX12_badBoth 24 rfl) (by decide) ?_
          have hf := Option.some.inj hf
          subst hf
          exact am_zret (am_dec tmX12_badBoth 25 rfl) rfl am_z0 (Nat.zero_le _) (Nat.zero_le _)
        · rw [if_neg c16] at hf
          refine am_iconst (v := (1 : Int32)) (am_dec tmX12_badBoth 22 rfl) (by decide) ?_
          refine am_goto (tgt := 47) (am_dec tmX12_badBoth 23 rfl) (by decide) ?_
          have hf := Option.some.inj hf
          subst hf
          exact am_zret (am_dec tmX12_badBoth 25 rfl) rfl am_z1 (Nat.zero_le _) (Nat.zero_le _)
      replace hf := g17
      refine am_if_ne (tgt := 34) (am_dec tmX12_badBoth 15 rfl) (by decide) (fun c11 => ?_) (fun c11 => ?_)
      · rw [if_neg c11] at hf
        refine am_iconst (v := (0 : Int32)) (am_dec tmX12_badBoth 18 rfl) (by decide) ?_
        have hf := Option.some.inj hf
        subst hf
        exact am_pick [] rfl key12
      · rw [if_pos c11] at hf
        refine am_iconst (v := (1 : Int32)) (am_dec tmX12_badBoth 16 rfl) (by decide) ?_
        refine am_goto (tgt := 35) (am_dec tmX12_badBoth 17 rfl) (by decide) ?_
        have hf := Option.some.inj hf
        subst hf
        exact am_pick [] rfl key12
  replace hf := g18
  refine am_if_ne (tgt := 13) (am_dec tmX12_badBoth 4 rfl) (by decide) (fun c3 => ?_) (fun c3 => ?_)
  · rw [if_neg c3] at hf
    refine am_iconst (v := (0 : Int32)) (am_dec tmX12_badBoth 7 rfl) (by decide) ?_
    have hf := Option.some.inj hf
    subst hf
    exact am_pick [0, 2] rfl key4
  · rw [if_pos c3] at hf
    refine am_iconst (v := (1 : Int32)) (am_dec tmX12_badBoth 5 rfl) (by decide) ?_
    refine am_goto (tgt := 14) (am_dec tmX12_badBoth 6 rfl) (by decide) ?_
    have hf := Option.some.inj hf
    subst hf
    exact am_pick [0, 2] rfl key4
theorem z_X12_badBoth {p1 : Int32} {p2 : Int32} {D : am_D} {r : (Int32 × am_D)} (hf : f_X12_badBoth p1 p2 D = some r) : narrow .boolean (.int r.1) = .int r.1 := by
  unfold f_X12_badBoth at hf
  obtain ⟨x2, g1, hf⟩ := am_bd hf
  obtain ⟨w5, g18, hf⟩ := am_bd hf
  have key4 : narrow .boolean (.int r.1) = .int r.1 := by
    obtain ⟨x7, g6, hf⟩ := am_bd hf
    by_cases c8 : x7.1 = 0
    · rw [if_pos c8] at hf
      obtain ⟨x10, g9, hf⟩ := am_bd hf
      obtain ⟨w13, g17, hf⟩ := am_bd hf
      have key12 : narrow .boolean (.int r.1) = .int r.1 := by
        obtain ⟨x15, g14, hf⟩ := am_bd hf
        by_cases c16 : x15.1 = 0
        · rw [if_pos c16] at hf
          have hf := Option.some.inj hf
          subst hf
          exact am_z0
        · rw [if_neg c16] at hf
          have hf := Option.some.inj hf
          subst hf
          exact am_z1
      replace hf := g17
      by_cases c11 : x10 = 0
      · rw [if_pos c11] at hf
        have hf := Option.some.inj hf
        subst hf
        exact key12
      · rw [if_neg c11] at hf
        have hf := Option.some.inj hf
        subst hf
        exact key12
    · rw [if_neg c8] at hf
      have hf := Option.some.inj hf
      subst hf
      exact am_z1
  replace hf := g18
  by_cases c3 : x2 = 0
  · rw [if_pos c3] at hf
    have hf := Option.some.inj hf
    subst hf
    exact key4
  · rw [if_neg c3] at hf
    have hf := Option.some.inj hf
    subst hf
    exact key4
