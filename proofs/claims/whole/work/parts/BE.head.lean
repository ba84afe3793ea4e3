/-! the law: from its entry to its loop -/
theorem lckL_8 : Cond.classLink RL 8 RX11 ∈ am_tg := am_t1 34 rfl rfl
theorem lckL_156 : Cond.classLink RL 156 RX12 ∈ am_tg := am_t8 119 rfl rfl
theorem lmL_155 : Cond.methodLink RL 155 yX11_init ∈ am_tg := am_t1 36 rfl rfl
theorem lmL_158 : Cond.methodLink RL 158 yX12_init ∈ am_tg := am_t8 121 rfl rfl
theorem lk_ins_X11 : Cond.instantiable RX11 14 ∈ am_tg := am_t1 35 rfl rfl
theorem lk_ini_X11 : Cond.initialized RX11 ∈ am_tg := am_t1 1 rfl rfl
theorem dv_X11 : ∀ j, j < 14 → defaultValue (am_ty 11 j) = if (am_ty 11 j).isReference = true then .null else .int 0 := by decide +kernel
theorem lk_ins_X12 : Cond.instantiable RX12 57 ∈ am_tg := am_t8 120 rfl rfl
theorem lk_ini_X12 : Cond.initialized RX12 ∈ am_tg := am_t1 14 rfl rfl
theorem dv_X12 : ∀ j, j < 57 → defaultValue (am_ty 12 j) = if (am_ty 12 j).isReference = true then .null else .int 0 := by decide +kernel
def am_V9 : Nat → Nat → Option Nat := fun _ _ => none
def am_D9 : am_D := (fun _ _ => 0, fun _ _ => 0)
def am_V1 : Nat → Nat → Option Nat := vc_117 (vc_16 am_V9)
def am_D1 : am_D := dc_117 (dc_16 am_D9)
/-- the references that the constructors made are those of am_V0 -/
def am_chk : Bool := (am_S0.zipIdx 16).all fun q => if q.1.1 = 20 then true else if q.1.1 = 21 then true else (List.range q.1.2).all fun j => decide (am_V1 q.2 j = am_V0 q.2 j)
theorem am_chk_ok : am_chk = true := by decide +kernel
theorem am_V1_eq {i j : Nat} {sh : Nat × Nat} (h : am_S0[i]? = some sh) (h20 : ¬ sh.1 = 20) (h21 : ¬ sh.1 = 21) (hj : j < sh.2) : am_V1 (16 + i) j = am_V0 (16 + i) j := by
  have hm : (sh, 16 + i) ∈ am_S0.zipIdx 16 := by
    refine List.mem_of_getElem? (i := i) ?_
    rw [List.getElem?_zipIdx, h]
    rfl
  have h1 := List.all_eq_true.mp am_chk_ok _ hm
  have h2 : (List.range sh.2).all (fun j => decide (am_V1 (16 + i) j = am_V0 (16 + i) j)) = true := by
    have h1 : (if sh.1 = 20 then true else if sh.1 = 21 then true else (List.range sh.2).all fun j => decide (am_V1 (16 + i) j = am_V0 (16 + i) j)) = true := h1
    rw [if_neg h20, if_neg h21] at h1
    exact h1
  exact of_decide_eq_true (List.all_eq_true.mp h2 j (List.mem_range.mpr hj))
theorem am_WH_0 {E : am_E} {D : am_D} {H : Heap} (h : am_WH E (am_Gk am_V1 2638) D H) : am_WH E am_G0 D H := by
  refine ⟨fun i sh hi => ?_, h.2.1, h.2.2.1, fun q => by cases q⟩
  have hi : am_S0[i]? = some sh := hi
  have hlt : i < 2622 := by
    have := (List.getElem?_eq_some_iff.mp hi).1
    rw [am_S0_len] at this
    exact this
  have hi2 : (am_Gk am_V1 2638).2.1[i]? = some sh := by
    show (am_S0.take (2638 - 16))[i]? = some sh
    rw [List.getElem?_take, if_pos (by omega)]
    exact hi
  have h1 := h.1 i sh hi2
  by_cases c : sh.1 < 20
  · have ec : am_cell E (am_Gk am_V1 2638) D (16 + i) sh = am_cell E am_G0 D (16 + i) sh := by
      unfold am_cell
      rw [if_pos c, if_pos c]
      congr 2
      unfold am_fields
      refine List.map_congr_left fun j hj => ?_
      have hj := List.mem_range.mp hj
      unfold am_field
      show (if (am_ty sh.1 j).isReference = true then va_rf ((am_V1 (16 + i) j).map (am_ph E)) else _) = (if (am_ty sh.1 j).isReference = true then va_rf ((am_V0 (16 + i) j).map (am_ph E)) else _)
      rw [am_V1_eq hi (by omega) (by omega) hj]
    rw [← ec]
    exact h1
  · by_cases c20 : sh.1 = 20
    · have ec : am_cell E (am_Gk am_V1 2638) D (16 + i) sh = am_cell E am_G0 D (16 + i) sh := by
        unfold am_cell am_arr
        rw [if_neg c, if_neg c, if_pos (by omega), if_pos (by omega)]
      rw [← ec]
      exact h1
    · by_cases c21 : sh.1 = 21
      · have ec : am_cell E (am_Gk am_V1 2638) D (16 + i) sh = am_cell E am_G0 D (16 + i) sh := by
          unfold am_cell am_arr
          have z0 : ¬ sh.1 - 20 = 0 := by omega
          have z1 : sh.1 - 20 = 1 := by omega
          rw [if_neg c, if_neg c, if_neg z0, if_neg z0, if_pos z1, if_pos z1]
        rw [← ec]
        exact h1
      · obtain ⟨k, n⟩ := sh
        have c : ¬ k < 20 := c
        have c20 : ¬ k = 20 := c20
        have c21 : ¬ k = 21 := c21
        rw [am_cell_arr c, am_arr_q (by omega)] at h1 ⊢
        have h1 : H[am_bs E + i]? = some (vp_cell _ (n, .inr (.inr (.inr (.inr (fun j => (am_V1 (16 + i) j).map (am_ph E))))))) := h1
        show H[am_bs E + i]? = some (vp_cell _ (n, .inr (.inr (.inr (.inr (fun j => (am_V0 (16 + i) j).map (am_ph E)))))))
        rw [h1, vp_cell_q, vp_cell_q]
        congr 1
        unfold arrV
        congr 2
        funext j
        have hj : (j : Nat) < n := j.2
        show va_rf ((am_V1 (16 + i) (j : Nat)).map (am_ph E)) = va_rf ((am_V0 (16 + i) (j : Nat)).map (am_ph E))
        rw [am_V1_eq hi c20 c21 hj]
theorem am_S_0 {E : am_E} {M : am_M} {d mc ms : Nat} {o : am_O} {G' : am_G} {D' : am_D} {cu su pc : Nat} {lv : List (Nat × Value)} {st : List Value} {D : am_D} (k : am_S E M d mc ms o G' D' cu su pc lv st am_G0 D) : am_S E M d mc ms o G' D' cu su pc lv st (am_Gk am_V1 2638) D :=
  fun p e s m args below meth c H locs ls F hS hl hW => k p e s m args below meth c H locs ls F hS hl (am_WH_0 hW)
theorem k_Q0 : k_Q am_D1 am_D1 := by
  refine ⟨0, 0, 0, 0, 0, 0, ⟨by decide, by decide +kernel, by decide +kernel, fun s hs => absurd hs (Nat.not_lt_zero s)⟩, ⟨by decide, by decide +kernel, by decide +kernel, fun s hs => absurd hs (Nat.not_lt_zero s)⟩, ⟨⟨16, 4, 3, ⟨by decide, by decide, by decide, by decide, by decide⟩, by decide +kernel, by decide +kernel, by decide +kernel, by decide +kernel, by decide +kernel, by decide +kernel⟩, ⟨200, 3, 8, by decide, by decide, by decide, by decide, by decide, by decide, by decide +kernel, by decide +kernel, by decide +kernel, by decide +kernel, by decide +kernel, by decide +kernel⟩, by decide +kernel⟩, ⟨by decide, by decide +kernel, by decide +kernel, fun s hs => absurd hs (Nat.not_lt_zero s)⟩, ⟨by decide, by decide +kernel, by decide +kernel, fun s hs => absurd hs (Nat.not_lt_zero s)⟩, ⟨by decide, by decide +kernel, by decide +kernel, fun s hs => absurd hs (Nat.not_lt_zero s)⟩, ⟨by decide, by decide +kernel, by decide +kernel, fun _ _ => 0, fun s hs => absurd hs (Nat.not_lt_zero s)⟩, ?_, ?_⟩
  · refine ⟨0, fun _ => 0, 0, 1, by decide, ⟨Nat.zero_le _, by decide +kernel, by decide +kernel, fun k hk => absurd hk (Nat.not_lt_zero k), fun _ _ => rfl⟩, by decide +kernel, fun k hk => absurd hk (Nat.not_lt_zero k), k_bnd0, by decide +kernel, by decide +kernel, by decide, fun k hk => absurd hk (Nat.not_lt_zero k), by decide +kernel, Or.inl (by decide +kernel), fun q => ?_, by decide +kernel, by decide +kernel⟩
    have z : am_D1.1 117 40 = 0 := by decide +kernel
    rw [z] at q
    exact absurd q (by decide)
  · exact ⟨0, by decide, by decide +kernel, by decide +kernel, fun k hk => absurd hk (Nat.not_lt_zero k), by decide +kernel⟩
set_option maxRecDepth 100000 in
set_option maxHeartbeats 4000000 in
theorem lw_head {E : am_E} (hE : am_EH E) (hA : am_AO E) {o : am_O} {G' : am_G} {D' : am_D} (k : am_S E mL_law 12 601024 7293034 o G' D' (0 + 1 + 100 + 1 + 2519 + 1) (0 + 14 + 17143 + 57 + 30795 + 1) 23 [(0, .ref 0), (1, .ref 16), (2, .ref 117), (3, .ref 2637), (4, .int (Int32.ofNat 0))] [] am_G0 am_D1) : am_S E mL_law 12 601024 7293034 o G' D' 0 0 0 [(0, .ref 0)] [] (am_Gk am_V9 16) am_D9 := by
  have hF0 : am_FR am_V9 am_D9 16 := fun x hx => ⟨fun _ => rfl, fun _ => rfl, fun _ => rfl⟩
  refine am_newK hE (am_dec tmL_law_0 0 rfl) cf11 lckL_8 lk_ins_X11 lk_ini_X11 sh_16 hF0 dv_X11 (Nat.le_of_ble_eq_true rfl) (Nat.le_of_ble_eq_true rfl) ?_
  have hF1 : am_FR _ _ 17 := am_FR_le hF0 (Nat.le_of_ble_eq_true rfl)
  refine am_dup (am_dec tmL_law_0 1 rfl) rfl ?_
  refine am_callI (As := []) (st := [.ref 16]) (am_dec tmL_law_0 2 rfl) ok_X11_init rfl rfl rfl lmL_155 in_X11_init (ci_16 hE hA hF1) rfl (by decide) (by decide) (Nat.le_of_ble_eq_true rfl) (Nat.le_of_ble_eq_true rfl) rfl ?_
  have hF2 : am_FR _ _ 117 := fr_16 hF1
  refine am_astore_n (lv' := [(0, .ref 0), (1, .ref 16)]) (am_dec tmL_law_0 3 rfl) rfl (by decide) rfl ?_
  refine am_newK hE (am_dec tmL_law_0 4 rfl) cf12 lckL_156 lk_ins_X12 lk_ini_X12 sh_117 hF2 dv_X12 (Nat.le_of_ble_eq_true rfl) (Nat.le_of_ble_eq_true rfl) ?_
  have hF3 : am_FR _ _ 118 := am_FR_le hF2 (Nat.le_of_ble_eq_true rfl)
  refine am_dup (am_dec tmL_law_0 5 rfl) rfl ?_
  refine am_callI (As := []) (st := [.ref 117]) (am_dec tmL_law_0 6 rfl) ok_X12_init rfl rfl rfl lmL_158 in_X12_init (ci_117 hE hA hF3) rfl (by decide) (by decide) (Nat.le_of_ble_eq_true rfl) (Nat.le_of_ble_eq_true rfl) rfl ?_
  have hF4 : am_FR _ _ 2637 := fr_117 hF3
  refine am_astore_n (lv' := [(0, .ref 0), (1, .ref 16), (2, .ref 117)]) (am_dec tmL_law_0 7 rfl) rfl (by decide) rfl ?_
  refine am_iconst (v := (1 : Int32)) (am_dec tmL_law_0 8 rfl) (by decide) ?_
  refine am_newarrK (t := 1) (N := 1) hE (am_dec tmL_law_0 9 rfl) rfl (Or.inr ⟨rfl, rfl⟩) lk_al (by decide) (by decide) shq_2637 hF4 (Nat.le_of_ble_eq_true rfl) (Nat.le_of_ble_eq_true rfl) ?_
  refine am_astore_n (lv' := [(0, .ref 0), (1, .ref 16), (2, .ref 117), (3, .ref 2637)]) (am_dec tmL_law_0 10 rfl) rfl (by decide) rfl ?_
  refine am_iconst (v := (0 : Int32)) (am_dec tmL_law_0 11 rfl) (by decide) ?_
  refine am_istore (lv' := [(0, .ref 0), (1, .ref 16), (2, .ref 117), (3, .ref 2637), (4, .int (Int32.ofNat 0))]) (am_dec tmL_law_0 12 rfl) (by decide) rfl ?_
  exact am_S_0 k
theorem lw_am {E : am_E} (hE : am_EH E) (hA : am_AO E) (hL : am_L E ≤ 3072) : ∃ D', am_S E mL_law 12 601024 7293034 (.inl (some (.int 1))) am_G0 D' 0 0 0 [(0, .ref 0)] [] (am_Gk am_V9 16) am_D9 := by
  obtain ⟨D', h⟩ := lw_rounds (mc := 601024) (ms := 7293034) hE hL 512 0 am_D1 (0 + 1 + 100 + 1 + 2519 + 1) (0 + 14 + 17143 + 57 + 30795 + 1) (by omega) (by omega) (by omega) (by omega) k_Q0
  exact ⟨D', lw_head hE hA h⟩
