/-! the constructors (by program: ctor.py) -/
def vc_23 (V : Nat → Nat → Option Nat) : Nat → Nat → Option Nat := V
def dc_23 (D : am_D) : am_D := am_wI (am_wI (am_wI (D) 23 0 (16 : Int32)) 23 1 (4 : Int32)) 23 2 (3 : Int32)
theorem fr_23 {V : Nat → Nat → Option Nat} {D : am_D} (hF0 : am_FR V D 24) : am_FR (vc_23 V) (dc_23 D) 24 := by
  have hF1 : am_FR _ _ 24 := am_FR_I (a := 23) (j := 0) (v := (16 : Int32)) hF0 (Nat.le_of_ble_eq_true rfl)
  have hF2 : am_FR _ _ 24 := am_FR_I (a := 23) (j := 1) (v := (4 : Int32)) hF1 (Nat.le_of_ble_eq_true rfl)
  have hF3 : am_FR _ _ 24 := am_FR_I (a := 23) (j := 2) (v := (3 : Int32)) hF2 (Nat.le_of_ble_eq_true rfl)
  exact hF3
set_option maxRecDepth 100000 in
set_option maxHeartbeats 4000000 in
theorem ci_23 {E : am_E} (hE : am_EH E) (hA : am_AO E) {V : Nat → Nat → Option Nat} {D : am_D} (hF0 : am_FR V D 24) : am_C E mX5_init 1 0 0 [.ref 23] (am_Gk V 24) D (.inl none) (am_Gk (vc_23 V) 24) (dc_23 D) := by
  refine am_C_of (by decide +kernel) (Nat.le_of_ble_eq_true rfl) ?_
  change am_S E mX5_init 1 0 0 (.inl none) (am_Gk (vc_23 V) 24) (dc_23 D) 0 0 0 [(0, .ref 23)] [] (am_Gk V 24) D
  refine am_aload_n (am_dec tmX5_init 0 rfl) rfl rfl ?_
  refine am_objInit (am_dec tmX5_init 1 rfl) lmo_X5_1 lk_obi lk_obc (by decide) ?_
  refine am_aload_n (am_dec tmX5_init 2 rfl) rfl rfl ?_
  refine am_bipush (v := (16 : Int32)) (am_dec tmX5_init 3 rfl) (by decide) ?_
  refine am_putIK (j := 0) hE (am_dec tmX5_init 4 rfl) sh_23 (by decide) cf5 (by decide) rfl lf_X5_7 (Or.inr ⟨rfl, rfl⟩) rfl rfl ?_
  have hF1 : am_FR _ _ 24 := am_FR_I (a := 23) (j := 0) (v := (16 : Int32)) hF0 (Nat.le_of_ble_eq_true rfl)
  refine am_aload_n (am_dec tmX5_init 5 rfl) rfl rfl ?_
  refine am_iconst (v := (4 : Int32)) (am_dec tmX5_init 6 rfl) (by decide) ?_
  refine am_putIK (j := 1) hE (am_dec tmX5_init 7 rfl) sh_23 (by decide) cf5 (by decide) rfl lf_X5_13 (Or.inr ⟨rfl, rfl⟩) rfl rfl ?_
  have hF2 : am_FR _ _ 24 := am_FR_I (a := 23) (j := 1) (v := (4 : Int32)) hF1 (Nat.le_of_ble_eq_true rfl)
  refine am_aload_n (am_dec tmX5_init 8 rfl) rfl rfl ?_
  refine am_iconst (v := (3 : Int32)) (am_dec tmX5_init 9 rfl) (by decide) ?_
  refine am_putIK (j := 2) hE (am_dec tmX5_init 10 rfl) sh_23 (by decide) cf5 (by decide) rfl lf_X5_16 (Or.inr ⟨rfl, rfl⟩) rfl rfl ?_
  have hF3 : am_FR _ _ 24 := am_FR_I (a := 23) (j := 2) (v := (3 : Int32)) hF2 (Nat.le_of_ble_eq_true rfl)
  exact am_vret (am_dec tmX5_init 11 rfl) rfl (Nat.le_of_ble_eq_true rfl) (Nat.le_of_ble_eq_true rfl)
def vc_24 (V : Nat → Nat → Option Nat) : Nat → Nat → Option Nat := am_up2 (am_up2 (am_up2 (am_up2 (am_up2 (V) 24 0 (some 25)) 24 1 (some 26)) 24 2 (some 27)) 24 3 (some 28)) 24 4 (some 29)
def dc_24 (D : am_D) : am_D := D
theorem fr_24 {V : Nat → Nat → Option Nat} {D : am_D} (hF0 : am_FR V D 25) : am_FR (vc_24 V) (dc_24 D) 30 := by
  have hF1 : am_FR _ _ 26 := am_FR_le hF0 (Nat.le_of_ble_eq_true rfl)
  have hF2 : am_FR _ _ 26 := am_FR_R (a := 24) (j := 0) (v := some 25) hF1 (Nat.le_of_ble_eq_true rfl)
  have hF3 : am_FR _ _ 27 := am_FR_le hF2 (Nat.le_of_ble_eq_true rfl)
  have hF4 : am_FR _ _ 27 := am_FR_R (a := 24) (j := 1) (v := some 26) hF3 (Nat.le_of_ble_eq_true rfl)
  have hF5 : am_FR _ _ 28 := am_FR_le hF4 (Nat.le_of_ble_eq_true rfl)
  have hF6 : am_FR _ _ 28 := am_FR_R (a := 24) (j := 2) (v := some 27) hF5 (Nat.le_of_ble_eq_true rfl)
  have hF7 : am_FR _ _ 29 := am_FR_le hF6 (Nat.le_of_ble_eq_true rfl)
  have hF8 : am_FR _ _ 29 := am_FR_R (a := 24) (j := 3) (v := some 28) hF7 (Nat.le_of_ble_eq_true rfl)
  have hF9 : am_FR _ _ 30 := am_FR_le hF8 (Nat.le_of_ble_eq_true rfl)
  have hF10 : am_FR _ _ 30 := am_FR_R (a := 24) (j := 4) (v := some 29) hF9 (Nat.le_of_ble_eq_true rfl)
  exact hF10
set_option maxRecDepth 100000 in
set_option maxHeartbeats 4000000 in
theorem ci_24 {E : am_E} (hE : am_EH E) (hA : am_AO E) {V : Nat → Nat → Option Nat} {D : am_D} (hF0 : am_FR V D 25) : am_C E mX6_init 1 5 50 [.ref 24] (am_Gk V 25) D (.inl none) (am_Gk (vc_24 V) 30) (dc_24 D) := by
  refine am_C_of (by decide +kernel) (Nat.le_of_ble_eq_true rfl) ?_
  change am_S E mX6_init 1 5 50 (.inl none) (am_Gk (vc_24 V) 30) (dc_24 D) 0 0 0 [(0, .ref 24)] [] (am_Gk V 25) D
  refine am_aload_n (am_dec tmX6_init 0 rfl) rfl rfl ?_
  refine am_objInit (am_dec tmX6_init 1 rfl) lmo_X6_3 lk_obi lk_obc (by decide) ?_
  refine am_aload_n (am_dec tmX6_init 2 rfl) rfl rfl ?_
  refine am_bipush (v := (10 : Int32)) (am_dec tmX6_init 3 rfl) (by decide) ?_
  refine am_newarrK (t := 0) (N := 10) hE (am_dec tmX6_init 4 rfl) rfl (Or.inl ⟨rfl, rfl⟩) lk_ai (by decide) (by decide) sh_25 hF0 (Nat.le_of_ble_eq_true rfl) (Nat.le_of_ble_eq_true rfl) ?_
  have hF1 : am_FR _ _ 26 := am_FR_le hF0 (Nat.le_of_ble_eq_true rfl)
  refine am_putRK (j := 0) hE (am_dec tmX6_init 5 rfl) sh_24 (by decide) cf6 (by decide) rfl lf_X6_9 (Or.inr ⟨rfl, rfl⟩) (fun _ => rfl) (fun _ => rfl) ?_
  have hF2 : am_FR _ _ 26 := am_FR_R (a := 24) (j := 0) (v := some 25) hF1 (Nat.le_of_ble_eq_true rfl)
  refine am_aload_n (am_dec tmX6_init 6 rfl) rfl rfl ?_
  refine am_bipush (v := (10 : Int32)) (am_dec tmX6_init 7 rfl) (by decide) ?_
  refine am_newarrK (t := 0) (N := 10) hE (am_dec tmX6_init 8 rfl) rfl (Or.inl ⟨rfl, rfl⟩) lk_ai (by decide) (by decide) sh_26 hF2 (Nat.le_of_ble_eq_true rfl) (Nat.le_of_ble_eq_true rfl) ?_
  have hF3 : am_FR _ _ 27 := am_FR_le hF2 (Nat.le_of_ble_eq_true rfl)
  refine am_putRK (j := 1) hE (am_dec tmX6_init 9 rfl) sh_24 (by decide) cf6 (by decide) rfl lf_X6_15 (Or.inr ⟨rfl, rfl⟩) (fun _ => rfl) (fun _ => rfl) ?_
  have hF4 : am_FR _ _ 27 := am_FR_R (a := 24) (j := 1) (v := some 26) hF3 (Nat.le_of_ble_eq_true rfl)
  refine am_aload_n (am_dec tmX6_init 10 rfl) rfl rfl ?_
  refine am_bipush (v := (10 : Int32)) (am_dec tmX6_init 11 rfl) (by decide) ?_
  refine am_newarrK (t := 0) (N := 10) hE (am_dec tmX6_init 12 rfl) rfl (Or.inl ⟨rfl, rfl⟩) lk_ai (by decide) (by decide) sh_27 hF4 (Nat.le_of_ble_eq_true rfl) (Nat.le_of_ble_eq_true rfl) ?_
  have hF5 : am_FR _ _ 28 := am_FR_le hF4 (Nat.le_of_ble_eq_true rfl)
  refine am_putRK (j := 2) hE (am_dec tmX6_init 13 rfl) sh_24 (by decide) cf6 (by decide) rfl lf_X6_18 (Or.inr ⟨rfl, rfl⟩) (fun _ => rfl) (fun _ => rfl) ?_
  have hF6 : am_FR _ _ 28 := am_FR_R (a := 24) (j := 2) (v := some 27) hF5 (Nat.le_of_ble_eq_true rfl)
  refine am_aload_n (am_dec tmX6_init 14 rfl) rfl rfl ?_
  refine am_bipush (v := (10 : Int32)) (am_dec tmX6_init 15 rfl) (by decide) ?_
  refine am_newarrK (t := 0) (N := 10) hE (am_dec tmX6_init 16 rfl) rfl (Or.inl ⟨rfl, rfl⟩) lk_ai (by decide) (by decide) sh_28 hF6 (Nat.le_of_ble_eq_true rfl) (Nat.le_of_ble_eq_true rfl) ?_
  have hF7 : am_FR _ _ 29 := am_FR_le hF6 (Nat.le_of_ble_eq_true rfl)
  refine am_putRK (j := 3) hE (am_dec tmX6_init 17 rfl) sh_24 (by decide) cf6 (by decide) rfl lf_X6_21 (Or.inr ⟨rfl, rfl⟩) (fun _ => rfl) (fun _ => rfl) ?_
  have hF8 : am_FR _ _ 29 := am_FR_R (a := 24) (j := 3) (v := some 28) hF7 (Nat.le_of_ble_eq_true rfl)
  refine am_aload_n (am_dec tmX6_init 18 rfl) rfl rfl ?_
  refine am_bipush (v := (10 : Int32)) (am_dec tmX6_init 19 rfl) (by decide) ?_
  refine am_newarrK (t := 0) (N := 10) hE (am_dec tmX6_init 20 rfl) rfl (Or.inl ⟨rfl, rfl⟩) lk_ai (by decide) (by decide) sh_29 hF8 (Nat.le_of_ble_eq_true rfl) (Nat.le_of_ble_eq_true rfl) ?_
  have hF9 : am_FR _ _ 30 := am_FR_le hF8 (Nat.le_of_ble_eq_true rfl)
  refine am_putRK (j := 4) hE (am_dec tmX6_init 21 rfl) sh_24 (by decide) cf6 (by decide) rfl lf_X6_24 (Or.inr ⟨rfl, rfl⟩) (fun _ => rfl) (fun _ => rfl) ?_
  have hF10 : am_FR _ _ 30 := am_FR_R (a := 24) (j := 4) (v := some 29) hF9 (Nat.le_of_ble_eq_true rfl)
  exact am_vret (am_dec tmX6_init 22 rfl) rfl (Nat.le_of_ble_eq_true rfl) (Nat.le_of_ble_eq_true rfl)
def vc_30 (V : Nat → Nat → Option Nat) : Nat → Nat → Option Nat := am_up2 (V) 30 0 (some 31)
def dc_30 (D : am_D) : am_D := D
theorem fr_30 {V : Nat → Nat → Option Nat} {D : am_D} (hF0 : am_FR V D 31) : am_FR (vc_30 V) (dc_30 D) 32 := by
  have hF1 : am_FR _ _ 32 := am_FR_le hF0 (Nat.le_of_ble_eq_true rfl)
  have hF2 : am_FR _ _ 32 := am_FR_R (a := 30) (j := 0) (v := some 31) hF1 (Nat.le_of_ble_eq_true rfl)
  exact hF2
set_option maxRecDepth 100000 in
set_option maxHeartbeats 4000000 in
theorem ci_30 {E : am_E} (hE : am_EH E) (hA : am_AO E) {V : Nat → Nat → Option Nat} {D : am_D} (hF0 : am_FR V D 31) : am_C E mX7_init 1 1 600 [.ref 30, .int (600 : Int32)] (am_Gk V 31) D (.inl none) (am_Gk (vc_30 V) 32) (dc_30 D) := by
  refine am_C_of (by decide +kernel) (Nat.le_of_ble_eq_true rfl) ?_
  change am_S E mX7_init 1 1 600 (.inl none) (am_Gk (vc_30 V) 32) (dc_30 D) 0 0 0 [(0, .ref 30), (1, .int (600 : Int32))] [] (am_Gk V 31) D
  refine am_aload_n (am_dec tmX7_init 0 rfl) rfl rfl ?_
  refine am_objInit (am_dec tmX7_init 1 rfl) lmo_X7_3 lk_obi lk_obc (by decide) ?_
  refine am_aload_n (am_dec tmX7_init 2 rfl) rfl rfl ?_
  refine am_iload_n (am_dec tmX7_init 3 rfl) rfl rfl ?_
  refine am_iconst (v := (0 : Int32)) (am_dec tmX7_init 4 rfl) (by decide) ?_
  refine am_mmax (am_dec tmX7_init 5 rfl) lmm_X7_9 wm_1 wm_9 wm_2 (by decide) (Nat.le_of_ble_eq_true rfl) (Nat.le_of_ble_eq_true rfl) ?_
  refine am_newarrK (t := 0) (N := 600) hE (am_dec tmX7_init 6 rfl) rfl (Or.inl ⟨rfl, rfl⟩) lk_ai (by decide) (by decide) sh_31 hF0 (Nat.le_of_ble_eq_true rfl) (Nat.le_of_ble_eq_true rfl) ?_
  have hF1 : am_FR _ _ 32 := am_FR_le hF0 (Nat.le_of_ble_eq_true rfl)
  refine am_putRK (j := 0) hE (am_dec tmX7_init 7 rfl) sh_30 (by decide) cf7 (by decide) rfl lf_X7_15 (Or.inr ⟨rfl, rfl⟩) (fun _ => rfl) (fun _ => rfl) ?_
  have hF2 : am_FR _ _ 32 := am_FR_R (a := 30) (j := 0) (v := some 31) hF1 (Nat.le_of_ble_eq_true rfl)
  exact am_vret (am_dec tmX7_init 8 rfl) rfl (Nat.le_of_ble_eq_true rfl) (Nat.le_of_ble_eq_true rfl)
def vc_32 (V : Nat → Nat → Option Nat) : Nat → Nat → Option Nat := am_up2 (V) 32 0 (some 33)
def dc_32 (D : am_D) : am_D := D
theorem fr_32 {V : Nat → Nat → Option Nat} {D : am_D} (hF0 : am_FR V D 33) : am_FR (vc_32 V) (dc_32 D) 34 := by
  have hF1 : am_FR _ _ 34 := am_FR_le hF0 (Nat.le_of_ble_eq_true rfl)
  have hF2 : am_FR _ _ 34 := am_FR_R (a := 32) (j := 0) (v := some 33) hF1 (Nat.le_of_ble_eq_true rfl)
  exact hF2
set_option maxRecDepth 100000 in
set_option maxHeartbeats 4000000 in
theorem ci_32 {E : am_E} (hE : am_EH E) (hA : am_AO E) {V : Nat → Nat → Option Nat} {D : am_D} (hF0 : am_FR V D 33) : am_C E mX7_init 1 1 600 [.ref 32, .int (600 : Int32)] (am_Gk V 33) D (.inl none) (am_Gk (vc_32 V) 34) (dc_32 D) := by
  refine am_C_of (by decide +kernel) (Nat.le_of_ble_eq_true rfl) ?_
  change am_S E mX7_init 1 1 600 (.inl none) (am_Gk (vc_32 V) 34) (dc_32 D) 0 0 0 [(0, .ref 32), (1, .int (600 : Int32))] [] (am_Gk V 33) D
  refine am_aload_n (am_dec tmX7_init 0 rfl) rfl rfl ?_
  refine am_objInit (am_dec tmX7_init 1 rfl) lmo_X7_3 lk_obi lk_obc (by decide) ?_
  refine am_aload_n (am_dec tmX7_init 2 rfl) rfl rfl ?_
  refine am_iload_n (am_dec tmX7_init 3 rfl) rfl rfl ?_
  refine am_iconst (v := (0 : Int32)) (am_dec tmX7_init 4 rfl) (by decide) ?_
  refine am_mmax (am_dec tmX7_init 5 rfl) lmm_X7_9 wm_1 wm_9 wm_2 (by decide) (Nat.le_of_ble_eq_true rfl) (Nat.le_of_ble_eq_true rfl) ?_
  refine am_newarrK (t := 0) (N := 600) hE (am_dec tmX7_init 6 rfl) rfl (Or.inl ⟨rfl, rfl⟩) lk_ai (by decide) (by decide) sh_33 hF0 (Nat.le_of_ble_eq_true rfl) (Nat.le_of_ble_eq_true rfl) ?_
  have hF1 : am_FR _ _ 34 := am_FR_le hF0 (Nat.le_of_ble_eq_true rfl)
  refine am_putRK (j := 0) hE (am_dec tmX7_init 7 rfl) sh_32 (by decide) cf7 (by decide) rfl lf_X7_15 (Or.inr ⟨rfl, rfl⟩) (fun _ => rfl) (fun _ => rfl) ?_
  have hF2 : am_FR _ _ 34 := am_FR_R (a := 32) (j := 0) (v := some 33) hF1 (Nat.le_of_ble_eq_true rfl)
  exact am_vret (am_dec tmX7_init 8 rfl) rfl (Nat.le_of_ble_eq_true rfl) (Nat.le_of_ble_eq_true rfl)
def vc_34 (V : Nat → Nat → Option Nat) : Nat → Nat → Option Nat := am_up2 (V) 34 0 (some 35)
def dc_34 (D : am_D) : am_D := D
theorem fr_34 {V : Nat → Nat → Option Nat} {D : am_D} (hF0 : am_FR V D 35) : am_FR (vc_34 V) (dc_34 D) 36 := by
  have hF1 : am_FR _ _ 36 := am_FR_le hF0 (Nat.le_of_ble_eq_true rfl)
  have hF2 : am_FR _ _ 36 := am_FR_R (a := 34) (j := 0) (v := some 35) hF1 (Nat.le_of_ble_eq_true rfl)
  exact hF2
set_option maxRecDepth 100000 in
set_option maxHeartbeats 4000000 in
theorem ci_34 {E : am_E} (hE : am_EH E) (hA : am_AO E) {V : Nat → Nat → Option Nat} {D : am_D} (hF0 : am_FR V D 35) : am_C E mX7_init 1 1 600 [.ref 34, .int (600 : Int32)] (am_Gk V 35) D (.inl none) (am_Gk (vc_34 V) 36) (dc_34 D) := by
  refine am_C_of (by decide +kernel) (Nat.le_of_ble_eq_true rfl) ?_
  change am_S E mX7_init 1 1 600 (.inl none) (am_Gk (vc_34 V) 36) (dc_34 D) 0 0 0 [(0, .ref 34), (1, .int (600 : Int32))] [] (am_Gk V 35) D
  refine am_aload_n (am_dec tmX7_init 0 rfl) rfl rfl ?_
  refine am_objInit (am_dec tmX7_init 1 rfl) lmo_X7_3 lk_obi lk_obc (by decide) ?_
  refine am_aload_n (am_dec tmX7_init 2 rfl) rfl rfl ?_
  refine am_iload_n (am_dec tmX7_init 3 rfl) rfl rfl ?_
  refine am_iconst (v := (0 : Int32)) (am_dec tmX7_init 4 rfl) (by decide) ?_
  refine am_mmax (am_dec tmX7_init 5 rfl) lmm_X7_9 wm_1 wm_9 wm_2 (by decide) (Nat.le_of_ble_eq_true rfl) (Nat.le_of_ble_eq_true rfl) ?_
  refine am_newarrK (t := 0) (N := 600) hE (am_dec tmX7_init 6 rfl) rfl (Or.inl ⟨rfl, rfl⟩) lk_ai (by decide) (by decide) sh_35 hF0 (Nat.le_of_ble_eq_true rfl) (Nat.le_of_ble_eq_true rfl) ?_
  have hF1 : am_FR _ _ 36 := am_FR_le hF0 (Nat.le_of_ble_eq_true rfl)
  refine am_putRK (j := 0) hE (am_dec tmX7_init 7 rfl) sh_34 (by decide) cf7 (by decide) rfl lf_X7_15 (Or.inr ⟨rfl, rfl⟩) (fun _ => rfl) (fun _ => rfl) ?_
  have hF2 : am_FR _ _ 36 := am_FR_R (a := 34) (j := 0) (v := some 35) hF1 (Nat.le_of_ble_eq_true rfl)
  exact am_vret (am_dec tmX7_init 8 rfl) rfl (Nat.le_of_ble_eq_true rfl) (Nat.le_of_ble_eq_true rfl)
def vc_36 (V : Nat → Nat → Option Nat) : Nat → Nat → Option Nat := am_up2 (V) 36 0 (some 37)
def dc_36 (D : am_D) : am_D := D
theorem fr_36 {V : Nat → Nat → Option Nat} {D : am_D} (hF0 : am_FR V D 37) : am_FR (vc_36 V) (dc_36 D) 38 := by
  have hF1 : am_FR _ _ 38 := am_FR_le hF0 (Nat.le_of_ble_eq_true rfl)
  have hF2 : am_FR _ _ 38 := am_FR_R (a := 36) (j := 0) (v := some 37) hF1 (Nat.le_of_ble_eq_true rfl)
  exact hF2
set_option maxRecDepth 100000 in
set_option maxHeartbeats 4000000 in
theorem ci_36 {E : am_E} (hE : am_EH E) (hA : am_AO E) {V : Nat → Nat → Option Nat} {D : am_D} (hF0 : am_FR V D 37) : am_C E mX7_init 1 1 600 [.ref 36, .int (600 : Int32)] (am_Gk V 37) D (.inl none) (am_Gk (vc_36 V) 38) (dc_36 D) := by
  refine am_C_of (by decide +kernel) (Nat.le_of_ble_eq_true rfl) ?_
  change am_S E mX7_init 1 1 600 (.inl none) (am_Gk (vc_36 V) 38) (dc_36 D) 0 0 0 [(0, .ref 36), (1, .int (600 : Int32))] [] (am_Gk V 37) D
  refine am_aload_n (am_dec tmX7_init 0 rfl) rfl rfl ?_
  refine am_objInit (am_dec tmX7_init 1 rfl) lmo_X7_3 lk_obi lk_obc (by decide) ?_
  refine am_aload_n (am_dec tmX7_init 2 rfl) rfl rfl ?_
  refine am_iload_n (am_dec tmX7_init 3 rfl) rfl rfl ?_
  refine am_iconst (v := (0 : Int32)) (am_dec tmX7_init 4 rfl) (by decide) ?_
  refine am_mmax (am_dec tmX7_init 5 rfl) lmm_X7_9 wm_1 wm_9 wm_2 (by decide) (Nat.le_of_ble_eq_true rfl) (Nat.le_of_ble_eq_true rfl) ?_
  refine am_newarrK (t := 0) (N := 600) hE (am_dec tmX7_init 6 rfl) rfl (Or.inl ⟨rfl, rfl⟩) lk_ai (by decide) (by decide) sh_37 hF0 (Nat.le_of_ble_eq_true rfl) (Nat.le_of_ble_eq_true rfl) ?_
  have hF1 : am_FR _ _ 38 := am_FR_le hF0 (Nat.le_of_ble_eq_true rfl)
  refine am_putRK (j := 0) hE (am_dec tmX7_init 7 rfl) sh_36 (by decide) cf7 (by decide) rfl lf_X7_15 (Or.inr ⟨rfl, rfl⟩) (fun _ => rfl) (fun _ => rfl) ?_
  have hF2 : am_FR _ _ 38 := am_FR_R (a := 36) (j := 0) (v := some 37) hF1 (Nat.le_of_ble_eq_true rfl)
  exact am_vret (am_dec tmX7_init 8 rfl) rfl (Nat.le_of_ble_eq_true rfl) (Nat.le_of_ble_eq_true rfl)
def vc_38 (V : Nat → Nat → Option Nat) : Nat → Nat → Option Nat := am_up2 (V) 38 0 (some 39)
def dc_38 (D : am_D) : am_D := D
theorem fr_38 {V : Nat → Nat → Option Nat} {D : am_D} (hF0 : am_FR V D 39) : am_FR (vc_38 V) (dc_38 D) 40 := by
  have hF1 : am_FR _ _ 40 := am_FR_le hF0 (Nat.le_of_ble_eq_true rfl)
  have hF2 : am_FR _ _ 40 := am_FR_R (a := 38) (j := 0) (v := some 39) hF1 (Nat.le_of_ble_eq_true rfl)
  exact hF2
set_option maxRecDepth 100000 in
set_option maxHeartbeats 4000000 in
theorem ci_38 {E : am_E} (hE : am_EH E) (hA : am_AO E) {V : Nat → Nat → Option Nat} {D : am_D} (hF0 : am_FR V D 39) : am_C E mX7_init 1 1 600 [.ref 38, .int (600 : Int32)] (am_Gk V 39) D (.inl none) (am_Gk (vc_38 V) 40) (dc_38 D) := by
  refine am_C_of (by decide +kernel) (Nat.le_of_ble_eq_true rfl) ?_
  change am_S E mX7_init 1 1 600 (.inl none) (am_Gk (vc_38 V) 40) (dc_38 D) 0 0 0 [(0, .ref 38), (1, .int (600 : Int32))] [] (am_Gk V 39) D
  refine am_aload_n (am_dec tmX7_init 0 rfl) rfl rfl ?_
  refine am_objInit (am_dec tmX7_init 1 rfl) lmo_X7_3 lk_obi lk_obc (by decide) ?_
  refine am_aload_n (am_dec tmX7_init 2 rfl) rfl rfl ?_
  refine am_iload_n (am_dec tmX7_init 3 rfl) rfl rfl ?_
  refine am_iconst (v := (0 : Int32)) (am_dec tmX7_init 4 rfl) (by decide) ?_
  refine am_mmax (am_dec tmX7_init 5 rfl) lmm_X7_9 wm_1 wm_9 wm_2 (by decide) (Nat.le_of_ble_eq_true rfl) (Nat.le_of_ble_eq_true rfl) ?_
  refine am_newarrK (t := 0) (N := 600) hE (am_dec tmX7_init 6 rfl) rfl (Or.inl ⟨rfl, rfl⟩) lk_ai (by decide) (by decide) sh_39 hF0 (Nat.le_of_ble_eq_true rfl) (Nat.le_of_ble_eq_true rfl) ?_
  have hF1 : am_FR _ _ 40 := am_FR_le hF0 (Nat.le_of_ble_eq_true rfl)
  refine am_putRK (j := 0) hE (am_dec tmX7_init 7 rfl) sh_38 (by decide) cf7 (by decide) rfl lf_X7_15 (Or.inr ⟨rfl, rfl⟩) (fun _ => rfl) (fun _ => rfl) ?_
  have hF2 : am_FR _ _ 40 := am_FR_R (a := 38) (j := 0) (v := some 39) hF1 (Nat.le_of_ble_eq_true rfl)
  exact am_vret (am_dec tmX7_init 8 rfl) rfl (Nat.le_of_ble_eq_true rfl) (Nat.le_of_ble_eq_true rfl)
def vc_40 (V : Nat → Nat → Option Nat) : Nat → Nat → Option Nat := am_up2 (am_up2 (V) 40 0 (some 41)) 40 1 (some 42)
def dc_40 (D : am_D) : am_D := D
theorem fr_40 {V : Nat → Nat → Option Nat} {D : am_D} (hF0 : am_FR V D 41) : am_FR (vc_40 V) (dc_40 D) 43 := by
  have hF1 : am_FR _ _ 42 := am_FR_le hF0 (Nat.le_of_ble_eq_true rfl)
  have hF2 : am_FR _ _ 42 := am_FR_R (a := 40) (j := 0) (v := some 41) hF1 (Nat.le_of_ble_eq_true rfl)
  have hF3 : am_FR _ _ 43 := am_FR_le hF2 (Nat.le_of_ble_eq_true rfl)
  have hF4 : am_FR _ _ 43 := am_FR_R (a := 40) (j := 1) (v := some 42) hF3 (Nat.le_of_ble_eq_true rfl)
  exact hF4
set_option maxRecDepth 100000 in
set_option maxHeartbeats 4000000 in
theorem ci_40 {E : am_E} (hE : am_EH E) (hA : am_AO E) {V : Nat → Nat → Option Nat} {D : am_D} (hF0 : am_FR V D 41) : am_C E mX9_init 1 2 24 [.ref 40] (am_Gk V 41) D (.inl none) (am_Gk (vc_40 V) 43) (dc_40 D) := by
  refine am_C_of (by decide +kernel) (Nat.le_of_ble_eq_true rfl) ?_
  change am_S E mX9_init 1 2 24 (.inl none) (am_Gk (vc_40 V) 43) (dc_40 D) 0 0 0 [(0, .ref 40)] [] (am_Gk V 41) D
  refine am_aload_n (am_dec tmX9_init 0 rfl) rfl rfl ?_
  refine am_objInit (am_dec tmX9_init 1 rfl) lmo_X9_3 lk_obi lk_obc (by decide) ?_
  refine am_aload_n (am_dec tmX9_init 2 rfl) rfl rfl ?_
  refine am_bipush (v := (12 : Int32)) (am_dec tmX9_init 3 rfl) (by decide) ?_
  refine am_newarrK (t := 0) (N := 12) hE (am_dec tmX9_init 4 rfl) rfl (Or.inl ⟨rfl, rfl⟩) lk_ai (by decide) (by decide) sh_41 hF0 (Nat.le_of_ble_eq_true rfl) (Nat.le_of_ble_eq_true rfl) ?_
  have hF1 : am_FR _ _ 42 := am_FR_le hF0 (Nat.le_of_ble_eq_true rfl)
  refine am_putRK (j := 0) hE (am_dec tmX9_init 5 rfl) sh_40 (by decide) cf9 (by decide) rfl lf_X9_9 (Or.inr ⟨rfl, rfl⟩) (fun _ => rfl) (fun _ => rfl) ?_
  have hF2 : am_FR _ _ 42 := am_FR_R (a := 40) (j := 0) (v := some 41) hF1 (Nat.le_of_ble_eq_true rfl)
  refine am_aload_n (am_dec tmX9_init 6 rfl) rfl rfl ?_
  refine am_bipush (v := (12 : Int32)) (am_dec tmX9_init 7 rfl) (by decide) ?_
  refine am_newarrK (t := 0) (N := 12) hE (am_dec tmX9_init 8 rfl) rfl (Or.inl ⟨rfl, rfl⟩) lk_ai (by decide) (by decide) sh_42 hF2 (Nat.le_of_ble_eq_true rfl) (Nat.le_of_ble_eq_true rfl) ?_
  have hF3 : am_FR _ _ 43 := am_FR_le hF2 (Nat.le_of_ble_eq_true rfl)
  refine am_putRK (j := 1) hE (am_dec tmX9_init 9 rfl) sh_40 (by decide) cf9 (by decide) rfl lf_X9_15 (Or.inr ⟨rfl, rfl⟩) (fun _ => rfl) (fun _ => rfl) ?_
  have hF4 : am_FR _ _ 43 := am_FR_R (a := 40) (j := 1) (v := some 42) hF3 (Nat.le_of_ble_eq_true rfl)
  exact am_vret (am_dec tmX9_init 10 rfl) rfl (Nat.le_of_ble_eq_true rfl) (Nat.le_of_ble_eq_true rfl)
def vc_43 (V : Nat → Nat → Option Nat) : Nat → Nat → Option Nat := am_up2 (am_up2 (V) 43 0 (some 44)) 43 1 (some 45)
def dc_43 (D : am_D) : am_D := D
theorem fr_43 {V : Nat → Nat → Option Nat} {D : am_D} (hF0 : am_FR V D 44) : am_FR (vc_43 V) (dc_43 D) 46 := by
  have hF1 : am_FR _ _ 45 := am_FR_le hF0 (Nat.le_of_ble_eq_true rfl)
  have hF2 : am_FR _ _ 45 := am_FR_R (a := 43) (j := 0) (v := some 44) hF1 (Nat.le_of_ble_eq_true rfl)
  have hF3 : am_FR _ _ 46 := am_FR_le hF2 (Nat.le_of_ble_eq_true rfl)
  have hF4 : am_FR _ _ 46 := am_FR_R (a := 43) (j := 1) (v := some 45) hF3 (Nat.le_of_ble_eq_true rfl)
  exact hF4
set_option maxRecDepth 100000 in
set_option maxHeartbeats 4000000 in
theorem ci_43 {E : am_E} (hE : am_EH E) (hA : am_AO E) {V : Nat → Nat → Option Nat} {D : am_D} (hF0 : am_FR V D 44) : am_C E mX9_init 1 2 24 [.ref 43] (am_Gk V 44) D (.inl none) (am_Gk (vc_43 V) 46) (dc_43 D) := by
  refine am_C_of (by decide +kernel) (Nat.le_of_ble_eq_true rfl) ?_
  change am_S E mX9_init 1 2 24 (.inl none) (am_Gk (vc_43 V) 46) (dc_43 D) 0 0 0 [(0, .ref 43)] [] (am_Gk V 44) D
  refine am_aload_n (am_dec tmX9_init 0 rfl) rfl rfl ?_
  refine am_objInit (am_dec tmX9_init 1 rfl) lmo_X9_3 lk_obi lk_obc (by decide) ?_
  refine am_aload_n (am_dec tmX9_init 2 rfl) rfl rfl ?_
  refine am_bipush (v := (12 : Int32)) (am_dec tmX9_init 3 rfl) (by decide) ?_
  refine am_newarrK (t := 0) (N := 12) hE (am_dec tmX9_init 4 rfl) rfl (Or.inl ⟨rfl, rfl⟩) lk_ai (by decide) (by decide) sh_44 hF0 (Nat.le_of_ble_eq_true rfl) (Nat.le_of_ble_eq_true rfl) ?_
  have hF1 : am_FR _ _ 45 := am_FR_le hF0 (Nat.le_of_ble_eq_true rfl)
  refine am_putRK (j := 0) hE (am_dec tmX9_init 5 rfl) sh_43 (by decide) cf9 (by decide) rfl lf_X9_9 (Or.inr ⟨rfl, rfl⟩) (fun _ => rfl) (fun _ => rfl) ?_
  have hF2 : am_FR _ _ 45 := am_FR_R (a := 43) (j := 0) (v := some 44) hF1 (Nat.le_of_ble_eq_true rfl)
  refine am_aload_n (am_dec tmX9_init 6 rfl) rfl rfl ?_
  refine am_bipush (v := (12 : Int32)) (am_dec tmX9_init 7 rfl) (by decide) ?_
  refine am_newarrK (t := 0) (N := 12) hE (am_dec tmX9_init 8 rfl) rfl (Or.inl ⟨rfl, rfl⟩) lk_ai (by decide) (by decide) sh_45 hF2 (Nat.le_of_ble_eq_true rfl) (Nat.le_of_ble_eq_true rfl) ?_
  have hF3 : am_FR _ _ 46 := am_FR_le hF2 (Nat.le_of_ble_eq_true rfl)
  refine am_putRK (j := 1) hE (am_dec tmX9_init 9 rfl) sh_43 (by decide) cf9 (by decide) rfl lf_X9_15 (Or.inr ⟨rfl, rfl⟩) (fun _ => rfl) (fun _ => rfl) ?_
  have hF4 : am_FR _ _ 46 := am_FR_R (a := 43) (j := 1) (v := some 45) hF3 (Nat.le_of_ble_eq_true rfl)
  exact am_vret (am_dec tmX9_init 10 rfl) rfl (Nat.le_of_ble_eq_true rfl) (Nat.le_of_ble_eq_true rfl)
def vc_46 (V : Nat → Nat → Option Nat) : Nat → Nat → Option Nat := am_up2 (am_up2 (V) 46 0 (some 47)) 46 1 (some 48)
def dc_46 (D : am_D) : am_D := D
theorem fr_46 {V : Nat → Nat → Option Nat} {D : am_D} (hF0 : am_FR V D 47) : am_FR (vc_46 V) (dc_46 D) 49 := by
  have hF1 : am_FR _ _ 48 := am_FR_le hF0 (Nat.le_of_ble_eq_true rfl)
  have hF2 : am_FR _ _ 48 := am_FR_R (a := 46) (j := 0) (v := some 47) hF1 (Nat.le_of_ble_eq_true rfl)
  have hF3 : am_FR _ _ 49 := am_FR_le hF2 (Nat.le_of_ble_eq_true rfl)
  have hF4 : am_FR _ _ 49 := am_FR_R (a := 46) (j := 1) (v := some 48) hF3 (Nat.le_of_ble_eq_true rfl)
  exact hF4
set_option maxRecDepth 100000 in
set_option maxHeartbeats 4000000 in
theorem ci_46 {E : am_E} (hE : am_EH E) (hA : am_AO E) {V : Nat → Nat → Option Nat} {D : am_D} (hF0 : am_FR V D 47) : am_C E mX9_init 1 2 24 [.ref 46] (am_Gk V 47) D (.inl none) (am_Gk (vc_46 V) 49) (dc_46 D) := by
  refine am_C_of (by decide +kernel) (Nat.le_of_ble_eq_true rfl) ?_
  change am_S E mX9_init 1 2 24 (.inl none) (am_Gk (vc_46 V) 49) (dc_46 D) 0 0 0 [(0, .ref 46)] [] (am_Gk V 47) D
  refine am_aload_n (am_dec tmX9_init 0 rfl) rfl rfl ?_
  refine am_objInit (am_dec tmX9_init 1 rfl) lmo_X9_3 lk_obi lk_obc (by decide) ?_
  refine am_aload_n (am_dec tmX9_init 2 rfl) rfl rfl ?_
  refine am_bipush (v := (12 : Int32)) (am_dec tmX9_init 3 rfl) (by decide) ?_
  refine am_newarrK (t := 0) (N := 12) hE (am_dec tmX9_init 4 rfl) rfl (Or.inl ⟨rfl, rfl⟩) lk_ai (by decide) (by decide) sh_47 hF0 (Nat.le_of_ble_eq_true rfl) (Nat.le_of_ble_eq_true rfl) ?_
  have hF1 : am_FR _ _ 48 := am_FR_le hF0 (Nat.le_of_ble_eq_true rfl)
  refine am_putRK (j := 0) hE (am_dec tmX9_init 5 rfl) sh_46 (by decide) cf9 (by decide) rfl lf_X9_9 (Or.inr ⟨rfl, rfl⟩) (fun _ => rfl) (fun _ => rfl) ?_
  have hF2 : am_FR _ _ 48 := am_FR_R (a := 46) (j := 0) (v := some 47) hF1 (Nat.le_of_ble_eq_true rfl)
  refine am_aload_n (am_dec tmX9_init 6 rfl) rfl rfl ?_
  refine am_bipush (v := (12 : Int32)) (am_dec tmX9_init 7 rfl) (by decide) ?_
  refine am_newarrK (t := 0) (N := 12) hE (am_dec tmX9_init 8 rfl) rfl (Or.inl ⟨rfl, rfl⟩) lk_ai (by decide) (by decide) sh_48 hF2 (Nat.le_of_ble_eq_true rfl) (Nat.le_of_ble_eq_true rfl) ?_
  have hF3 : am_FR _ _ 49 := am_FR_le hF2 (Nat.le_of_ble_eq_true rfl)
  refine am_putRK (j := 1) hE (am_dec tmX9_init 9 rfl) sh_46 (by decide) cf9 (by decide) rfl lf_X9_15 (Or.inr ⟨rfl, rfl⟩) (fun _ => rfl) (fun _ => rfl) ?_
  have hF4 : am_FR _ _ 49 := am_FR_R (a := 46) (j := 1) (v := some 48) hF3 (Nat.le_of_ble_eq_true rfl)
  exact am_vret (am_dec tmX9_init 10 rfl) rfl (Nat.le_of_ble_eq_true rfl) (Nat.le_of_ble_eq_true rfl)
def vc_49 (V : Nat → Nat → Option Nat) : Nat → Nat → Option Nat := am_up2 (am_up2 (V) 49 0 (some 50)) 49 1 (some 51)
def dc_49 (D : am_D) : am_D := D
theorem fr_49 {V : Nat → Nat → Option Nat} {D : am_D} (hF0 : am_FR V D 50) : am_FR (vc_49 V) (dc_49 D) 52 := by
  have hF1 : am_FR _ _ 51 := am_FR_le hF0 (Nat.le_of_ble_eq_true rfl)
  have hF2 : am_FR _ _ 51 := am_FR_R (a := 49) (j := 0) (v := some 50) hF1 (Nat.le_of_ble_eq_true rfl)
  have hF3 : am_FR _ _ 52 := am_FR_le hF2 (Nat.le_of_ble_eq_true rfl)
  have hF4 : am_FR _ _ 52 := am_FR_R (a := 49) (j := 1) (v := some 51) hF3 (Nat.le_of_ble_eq_true rfl)
  exact hF4
set_option maxRecDepth 100000 in
set_option maxHeartbeats 4000000 in
theorem ci_49 {E : am_E} (hE : am_EH E) (hA : am_AO E) {V : Nat → Nat → Option Nat} {D : am_D} (hF0 : am_FR V D 50) : am_C E mX9_init 1 2 24 [.ref 49] (am_Gk V 50) D (.inl none) (am_Gk (vc_49 V) 52) (dc_49 D) := by
  refine am_C_of (by decide +kernel) (Nat.le_of_ble_eq_true rfl) ?_
  change am_S E mX9_init 1 2 24 (.inl none) (am_Gk (vc_49 V) 52) (dc_49 D) 0 0 0 [(0, .ref 49)] [] (am_Gk V 50) D
  refine am_aload_n (am_dec tmX9_init 0 rfl) rfl rfl ?_
  refine am_objInit (am_dec tmX9_init 1 rfl) lmo_X9_3 lk_obi lk_obc (by decide) ?_
  refine am_aload_n (am_dec tmX9_init 2 rfl) rfl rfl ?_
  refine am_bipush (v := (12 : Int32)) (am_dec tmX9_init 3 rfl) (by decide) ?_
  refine am_newarrK (t := 0) (N := 12) hE (am_dec tmX9_init 4 rfl) rfl (Or.inl ⟨rfl, rfl⟩) lk_ai (by decide) (by decide) sh_50 hF0 (Nat.le_of_ble_eq_true rfl) (Nat.le_of_ble_eq_true rfl) ?_
  have hF1 : am_FR _ _ 51 := am_FR_le hF0 (Nat.le_of_ble_eq_true rfl)
  refine am_putRK (j := 0) hE (am_dec tmX9_init 5 rfl) sh_49 (by decide) cf9 (by decide) rfl lf_X9_9 (Or.inr ⟨rfl, rfl⟩) (fun _ => rfl) (fun _ => rfl) ?_
  have hF2 : am_FR _ _ 51 := am_FR_R (a := 49) (j := 0) (v := some 50) hF1 (Nat.le_of_ble_eq_true rfl)
  refine am_aload_n (am_dec tmX9_init 6 rfl) rfl rfl ?_
  refine am_bipush (v := (12 : Int32)) (am_dec tmX9_init 7 rfl) (by decide) ?_
  refine am_newarrK (t := 0) (N := 12) hE (am_dec tmX9_init 8 rfl) rfl (Or.inl ⟨rfl, rfl⟩) lk_ai (by decide) (by decide) sh_51 hF2 (Nat.le_of_ble_eq_true rfl) (Nat.le_of_ble_eq_true rfl) ?_
  have hF3 : am_FR _ _ 52 := am_FR_le hF2 (Nat.le_of_ble_eq_true rfl)
  refine am_putRK (j := 1) hE (am_dec tmX9_init 9 rfl) sh_49 (by decide) cf9 (by decide) rfl lf_X9_15 (Or.inr ⟨rfl, rfl⟩) (fun _ => rfl) (fun _ => rfl) ?_
  have hF4 : am_FR _ _ 52 := am_FR_R (a := 49) (j := 1) (v := some 51) hF3 (Nat.le_of_ble_eq_true rfl)
  exact am_vret (am_dec tmX9_init 10 rfl) rfl (Nat.le_of_ble_eq_true rfl) (Nat.le_of_ble_eq_true rfl)
def vc_52 (V : Nat → Nat → Option Nat) : Nat → Nat → Option Nat := am_up2 (am_up2 (V) 52 0 (some 53)) 52 1 (some 54)
def dc_52 (D : am_D) : am_D := D
theorem fr_52 {V : Nat → Nat → Option Nat} {D : am_D} (hF0 : am_FR V D 53) : am_FR (vc_52 V) (dc_52 D) 55 := by
  have hF1 : am_FR _ _ 54 := am_FR_le hF0 (Nat.le_of_ble_eq_true rfl)
  have hF2 : am_FR _ _ 54 := am_FR_R (a := 52) (j := 0) (v := some 53) hF1 (Nat.le_of_ble_eq_true rfl)
  have hF3 : am_FR _ _ 55 := am_FR_le hF2 (Nat.le_of_ble_eq_true rfl)
  have hF4 : am_FR _ _ 55 := am_FR_R (a := 52) (j := 1) (v := some 54) hF3 (Nat.le_of_ble_eq_true rfl)
  exact hF4
set_option maxRecDepth 100000 in
set_option maxHeartbeats 4000000 in
theorem ci_52 {E : am_E} (hE : am_EH E) (hA : am_AO E) {V : Nat → Nat → Option Nat} {D : am_D} (hF0 : am_FR V D 53) : am_C E mX9_init 1 2 24 [.ref 52] (am_Gk V 53) D (.inl none) (am_Gk (vc_52 V) 55) (dc_52 D) := by
  refine am_C_of (by decide +kernel) (Nat.le_of_ble_eq_true rfl) ?_
  change am_S E mX9_init 1 2 24 (.inl none) (am_Gk (vc_52 V) 55) (dc_52 D) 0 0 0 [(0, .ref 52)] [] (am_Gk V 53) D
  refine am_aload_n (am_dec tmX9_init 0 rfl) rfl rfl ?_
  refine am_objInit (am_dec tmX9_init 1 rfl) lmo_X9_3 lk_obi lk_obc (by decide) ?_
  refine am_aload_n (am_dec tmX9_init 2 rfl) rfl rfl ?_
  refine am_bipush (v := (12 : Int32)) (am_dec tmX9_init 3 rfl) (by decide) ?_
  refine am_newarrK (t := 0) (N := 12) hE (am_dec tmX9_init 4 rfl) rfl (Or.inl ⟨rfl, rfl⟩) lk_ai (by decide) (by decide) sh_53 hF0 (Nat.le_of_ble_eq_true rfl) (Nat.le_of_ble_eq_true rfl) ?_
  have hF1 : am_FR _ _ 54 := am_FR_le hF0 (Nat.le_of_ble_eq_true rfl)
  refine am_putRK (j := 0) hE (am_dec tmX9_init 5 rfl) sh_52 (by decide) cf9 (by decide) rfl lf_X9_9 (Or.inr ⟨rfl, rfl⟩) (fun _ => rfl) (fun _ => rfl) ?_
  have hF2 : am_FR _ _ 54 := am_FR_R (a := 52) (j := 0) (v := some 53) hF1 (Nat.le_of_ble_eq_true rfl)
  refine am_aload_n (am_dec tmX9_init 6 rfl) rfl rfl ?_
  refine am_bipush (v := (12 : Int32)) (am_dec tmX9_init 7 rfl) (by decide) ?_
  refine am_newarrK (t := 0) (N := 12) hE (am_dec tmX9_init 8 rfl) rfl (Or.inl ⟨rfl, rfl⟩) lk_ai (by decide) (by decide) sh_54 hF2 (Nat.le_of_ble_eq_true rfl) (Nat.le_of_ble_eq_true rfl) ?_
  have hF3 : am_FR _ _ 55 := am_FR_le hF2 (Nat.le_of_ble_eq_true rfl)
  refine am_putRK (j := 1) hE (am_dec tmX9_init 9 rfl) sh_52 (by decide) cf9 (by decide) rfl lf_X9_15 (Or.inr ⟨rfl, rfl⟩) (fun _ => rfl) (fun _ => rfl) ?_
  have hF4 : am_FR _ _ 55 := am_FR_R (a := 52) (j := 1) (v := some 54) hF3 (Nat.le_of_ble_eq_true rfl)
  exact am_vret (am_dec tmX9_init 10 rfl) rfl (Nat.le_of_ble_eq_true rfl) (Nat.le_of_ble_eq_true rfl)
def vc_55 (V : Nat → Nat → Option Nat) : Nat → Nat → Option Nat := V
def dc_55 (D : am_D) : am_D := am_wI (am_wI (am_wI (D) 55 0 (16 : Int32)) 55 1 (4 : Int32)) 55 2 (3 : Int32)
theorem fr_55 {V : Nat → Nat → Option Nat} {D : am_D} (hF0 : am_FR V D 56) : am_FR (vc_55 V) (dc_55 D) 56 := by
  have hF1 : am_FR _ _ 56 := am_FR_I (a := 55) (j := 0) (v := (16 : Int32)) hF0 (Nat.le_of_ble_eq_true rfl)
  have hF2 : am_FR _ _ 56 := am_FR_I (a := 55) (j := 1) (v := (4 : Int32)) hF1 (Nat.le_of_ble_eq_true rfl)
  have hF3 : am_FR _ _ 56 := am_FR_I (a := 55) (j := 2) (v := (3 : Int32)) hF2 (Nat.le_of_ble_eq_true rfl)
  exact hF3
set_option maxRecDepth 100000 in
set_option maxHeartbeats 4000000 in
theorem ci_55 {E : am_E} (hE : am_EH E) (hA : am_AO E) {V : Nat → Nat → Option Nat} {D : am_D} (hF0 : am_FR V D 56) : am_C E mX5_init 1 0 0 [.ref 55] (am_Gk V 56) D (.inl none) (am_Gk (vc_55 V) 56) (dc_55 D) := by
  refine am_C_of (by decide +kernel) (Nat.le_of_ble_eq_true rfl) ?_
  change am_S E mX5_init 1 0 0 (.inl none) (am_Gk (vc_55 V) 56) (dc_55 D) 0 0 0 [(0, .ref 55)] [] (am_Gk V 56) D
  refine am_aload_n (am_dec tmX5_init 0 rfl) rfl rfl ?_
  refine am_objInit (am_dec tmX5_init 1 rfl) lmo_X5_1 lk_obi lk_obc (by decide) ?_
  refine am_aload_n (am_dec tmX5_init 2 rfl) rfl rfl ?_
  refine am_bipush (v := (16 : Int32)) (am_dec tmX5_init 3 rfl) (by decide) ?_
  refine am_putIK (j := 0) hE (am_dec tmX5_init 4 rfl) sh_55 (by decide) cf5 (by decide) rfl lf_X5_7 (Or.inr ⟨rfl, rfl⟩) rfl rfl ?_
  have hF1 : am_FR _ _ 56 := am_FR_I (a := 55) (j := 0) (v := (16 : Int32)) hF0 (Nat.le_of_ble_eq_true rfl)
  refine am_aload_n (am_dec tmX5_init 5 rfl) rfl rfl ?_
  refine am_iconst (v := (4 : Int32)) (am_dec tmX5_init 6 rfl) (by decide) ?_
  refine am_putIK (j := 1) hE (am_dec tmX5_init 7 rfl) sh_55 (by decide) cf5 (by decide) rfl lf_X5_13 (Or.inr ⟨rfl, rfl⟩) rfl rfl ?_
  have hF2 : am_FR _ _ 56 := am_FR_I (a := 55) (j := 1) (v := (4 : Int32)) hF1 (Nat.le_of_ble_eq_true rfl)
  refine am_aload_n (am_dec tmX5_init 8 rfl) rfl rfl ?_
  refine am_iconst (v := (3 : Int32)) (am_dec tmX5_init 9 rfl) (by decide) ?_
  refine am_putIK (j := 2) hE (am_dec tmX5_init 10 rfl) sh_55 (by decide) cf5 (by decide) rfl lf_X5_16 (Or.inr ⟨rfl, rfl⟩) rfl rfl ?_
  have hF3 : am_FR _ _ 56 := am_FR_I (a := 55) (j := 2) (v := (3 : Int32)) hF2 (Nat.le_of_ble_eq_true rfl)
  exact am_vret (am_dec tmX5_init 11 rfl) rfl (Nat.le_of_ble_eq_true rfl) (Nat.le_of_ble_eq_true rfl)
def vc_56 (V : Nat → Nat → Option Nat) : Nat → Nat → Option Nat := V
def dc_56 (D : am_D) : am_D := am_wI (am_wI (am_wI (D) 56 0 (16 : Int32)) 56 1 (4 : Int32)) 56 2 (3 : Int32)
theorem fr_56 {V : Nat → Nat → Option Nat} {D : am_D} (hF0 : am_FR V D 57) : am_FR (vc_56 V) (dc_56 D) 57 := by
  have hF1 : am_FR _ _ 57 := am_FR_I (a := 56) (j := 0) (v := (16 : Int32)) hF0 (Nat.le_of_ble_eq_true rfl)
  have hF2 : am_FR _ _ 57 := am_FR_I (a := 56) (j := 1) (v := (4 : Int32)) hF1 (Nat.le_of_ble_eq_true rfl)
  have hF3 : am_FR _ _ 57 := am_FR_I (a := 56) (j := 2) (v := (3 : Int32)) hF2 (Nat.le_of_ble_eq_true rfl)
  exact hF3
set_option maxRecDepth 100000 in
set_option maxHeartbeats 4000000 in
theorem ci_56 {E : am_E} (hE : am_EH E) (hA : am_AO E) {V : Nat → Nat → Option Nat} {D : am_D} (hF0 : am_FR V D 57) : am_C E mX5_init 1 0 0 [.ref 56] (am_Gk V 57) D (.inl none) (am_Gk (vc_56 V) 57) (dc_56 D) := by
  refine am_C_of (by decide +kernel) (Nat.le_of_ble_eq_true rfl) ?_
  change am_S E mX5_init 1 0 0 (.inl none) (am_Gk (vc_56 V) 57) (dc_56 D) 0 0 0 [(0, .ref 56)] [] (am_Gk V 57) D
  refine am_aload_n (am_dec tmX5_init 0 rfl) rfl rfl ?_
  refine am_objInit (am_dec tmX5_init 1 rfl) lmo_X5_1 lk_obi lk_obc (by decide) ?_
  refine am_aload_n (am_dec tmX5_init 2 rfl) rfl rfl ?_
  refine am_bipush (v := (16 : Int32)) (am_dec tmX5_init 3 rfl) (by decide) ?_
  refine am_putIK (j := 0) hE (am_dec tmX5_init 4 rfl) sh_56 (by decide) cf5 (by decide) rfl lf_X5_7 (Or.inr ⟨rfl, rfl⟩) rfl rfl ?_
  have hF1 : am_FR _ _ 57 := am_FR_I (a := 56) (j := 0) (v := (16 : Int32)) hF0 (Nat.le_of_ble_eq_true rfl)
  refine am_aload_n (am_dec tmX5_init 5 rfl) rfl rfl ?_
  refine am_iconst (v := (4 : Int32)) (am_dec tmX5_init 6 rfl) (by decide) ?_
  refine am_putIK (j := 1) hE (am_dec tmX5_init 7 rfl) sh_56 (by decide) cf5 (by decide) rfl lf_X5_13 (Or.inr ⟨rfl, rfl⟩) rfl rfl ?_
  have hF2 : am_FR _ _ 57 := am_FR_I (a := 56) (j := 1) (v := (4 : Int32)) hF1 (Nat.le_of_ble_eq_true rfl)
  refine am_aload_n (am_dec tmX5_init 8 rfl) rfl rfl ?_
  refine am_iconst (v := (3 : Int32)) (am_dec tmX5_init 9 rfl) (by decide) ?_
  refine am_putIK (j := 2) hE (am_dec tmX5_init 10 rfl) sh_56 (by decide) cf5 (by decide) rfl lf_X5_16 (Or.inr ⟨rfl, rfl⟩) rfl rfl ?_
  have hF3 : am_FR _ _ 57 := am_FR_I (a := 56) (j := 2) (v := (3 : Int32)) hF2 (Nat.le_of_ble_eq_true rfl)
  exact am_vret (am_dec tmX5_init 11 rfl) rfl (Nat.le_of_ble_eq_true rfl) (Nat.le_of_ble_eq_true rfl)
def vc_57 (V : Nat → Nat → Option Nat) : Nat → Nat → Option Nat := V
def dc_57 (D : am_D) : am_D := am_wI (am_wI (am_wI (D) 57 0 (16 : Int32)) 57 1 (4 : Int32)) 57 2 (3 : Int32)
theorem fr_57 {V : Nat → Nat → Option Nat} {D : am_D} (hF0 : am_FR V D 58) : am_FR (vc_57 V) (dc_57 D) 58 := by
  have hF1 : am_FR _ _ 58 := am_FR_I (a := 57) (j := 0) (v := (16 : Int32)) hF0 (Nat.le_of_ble_eq_true rfl)
  have hF2 : am_FR _ _ 58 := am_FR_I (a := 57) (j := 1) (v := (4 : Int32)) hF1 (Nat.le_of_ble_eq_true rfl)
  have hF3 : am_FR _ _ 58 := am_FR_I (a := 57) (j := 2) (v := (3 : Int32)) hF2 (Nat.le_of_ble_eq_true rfl)
  exact hF3
set_option maxRecDepth 100000 in
set_option maxHeartbeats 4000000 in
theorem ci_57 {E : am_E} (hE : am_EH E) (hA : am_AO E) {V : Nat → Nat → Option Nat} {D : am_D} (hF0 : am_FR V D 58) : am_C E mX5_init 1 0 0 [.ref 57] (am_Gk V 58) D (.inl none) (am_Gk (vc_57 V) 58) (dc_57 D) := by
  refine am_C_of (by decide +kernel) (Nat.le_of_ble_eq_true rfl) ?_
  change am_S E mX5_init 1 0 0 (.inl none) (am_Gk (vc_57 V) 58) (dc_57 D) 0 0 0 [(0, .ref 57)] [] (am_Gk V 58) D
  refine am_aload_n (am_dec tmX5_init 0 rfl) rfl rfl ?_
  refine am_objInit (am_dec tmX5_init 1 rfl) lmo_X5_1 lk_obi lk_obc (by decide) ?_
  refine am_aload_n (am_dec tmX5_init 2 rfl) rfl rfl ?_
  refine am_bipush (v := (16 : Int32)) (am_dec tmX5_init 3 rfl) (by decide) ?_
  refine am_putIK (j := 0) hE (am_dec tmX5_init 4 rfl) sh_57 (by decide) cf5 (by decide) rfl lf_X5_7 (Or.inr ⟨rfl, rfl⟩) rfl rfl ?_
  have hF1 : am_FR _ _ 58 := am_FR_I (a := 57) (j := 0) (v := (16 : Int32)) hF0 (Nat.le_of_ble_eq_true rfl)
  refine am_aload_n (am_dec tmX5_init 5 rfl) rfl rfl ?_
  refine am_iconst (v := (4 : Int32)) (am_dec tmX5_init 6 rfl) (by decide) ?_
  refine am_putIK (j := 1) hE (am_dec tmX5_init 7 rfl) sh_57 (by decide) cf5 (by decide) rfl lf_X5_13 (Or.inr ⟨rfl, rfl⟩) rfl rfl ?_
  have hF2 : am_FR _ _ 58 := am_FR_I (a := 57) (j := 1) (v := (4 : Int32)) hF1 (Nat.le_of_ble_eq_true rfl)
  refine am_aload_n (am_dec tmX5_init 8 rfl) rfl rfl ?_
  refine am_iconst (v := (3 : Int32)) (am_dec tmX5_init 9 rfl) (by decide) ?_
  refine am_putIK (j := 2) hE (am_dec tmX5_init 10 rfl) sh_57 (by decide) cf5 (by decide) rfl lf_X5_16 (Or.inr ⟨rfl, rfl⟩) rfl rfl ?_
  have hF3 : am_FR _ _ 58 := am_FR_I (a := 57) (j := 2) (v := (3 : Int32)) hF2 (Nat.le_of_ble_eq_true rfl)
  exact am_vret (am_dec tmX5_init 11 rfl) rfl (Nat.le_of_ble_eq_true rfl) (Nat.le_of_ble_eq_true rfl)
def vc_58 (V : Nat → Nat → Option Nat) : Nat → Nat → Option Nat := V
def dc_58 (D : am_D) : am_D := am_wI (am_wI (am_wI (D) 58 0 (16 : Int32)) 58 1 (4 : Int32)) 58 2 (3 : Int32)
theorem fr_58 {V : Nat → Nat → Option Nat} {D : am_D} (hF0 : am_FR V D 59) : am_FR (vc_58 V) (dc_58 D) 59 := by
  have hF1 : am_FR _ _ 59 := am_FR_I (a := 58) (j := 0) (v := (16 : Int32)) hF0 (Nat.le_of_ble_eq_true rfl)
  have hF2 : am_FR _ _ 59 := am_FR_I (a := 58) (j := 1) (v := (4 : Int32)) hF1 (Nat.le_of_ble_eq_true rfl)
  have hF3 : am_FR _ _ 59 := am_FR_I (a := 58) (j := 2) (v := (3 : Int32)) hF2 (Nat.le_of_ble_eq_true rfl)
  exact hF3
set_option maxRecDepth 100000 in
set_option maxHeartbeats 4000000 in
theorem ci_58 {E : am_E} (hE : am_EH E) (hA : am_AO E) {V : Nat → Nat → Option Nat} {D : am_D} (hF0 : am_FR V D 59) : am_C E mX5_init 1 0 0 [.ref 58] (am_Gk V 59) D (.inl none) (am_Gk (vc_58 V) 59) (dc_58 D) := by
  refine am_C_of (by decide +kernel) (Nat.le_of_ble_eq_true rfl) ?_
  change am_S E mX5_init 1 0 0 (.inl none) (am_Gk (vc_58 V) 59) (dc_58 D) 0 0 0 [(0, .ref 58)] [] (am_Gk V 59) D
  refine am_aload_n (am_dec tmX5_init 0 rfl) rfl rfl ?_
  refine am_objInit (am_dec tmX5_init 1 rfl) lmo_X5_1 lk_obi lk_obc (by decide) ?_
  refine am_aload_n (am_dec tmX5_init 2 rfl) rfl rfl ?_
  refine am_bipush (v := (16 : Int32)) (am_dec tmX5_init 3 rfl) (by decide) ?_
  refine am_putIK (j := 0) hE (am_dec tmX5_init 4 rfl) sh_58 (by decide) cf5 (by decide) rfl lf_X5_7 (Or.inr ⟨rfl, rfl⟩) rfl rfl ?_
  have hF1 : am_FR _ _ 59 := am_FR_I (a := 58) (j := 0) (v := (16 : Int32)) hF0 (Nat.le_of_ble_eq_true rfl)
  refine am_aload_n (am_dec tmX5_init 5 rfl) rfl rfl ?_
  refine am_iconst (v := (4 : Int32)) (am_dec tmX5_init 6 rfl) (by decide) ?_
  refine am_putIK (j := 1) hE (am_dec tmX5_init 7 rfl) sh_58 (by decide) cf5 (by decide) rfl lf_X5_13 (Or.inr ⟨rfl, rfl⟩) rfl rfl ?_
  have hF2 : am_FR _ _ 59 := am_FR_I (a := 58) (j := 1) (v := (4 : Int32)) hF1 (Nat.le_of_ble_eq_true rfl)
  refine am_aload_n (am_dec tmX5_init 8 rfl) rfl rfl ?_
  refine am_iconst (v := (3 : Int32)) (am_dec tmX5_init 9 rfl) (by decide) ?_
  refine am_putIK (j := 2) hE (am_dec tmX5_init 10 rfl) sh_58 (by decide) cf5 (by decide) rfl lf_X5_16 (Or.inr ⟨rfl, rfl⟩) rfl rfl ?_
  have hF3 : am_FR _ _ 59 := am_FR_I (a := 58) (j := 2) (v := (3 : Int32)) hF2 (Nat.le_of_ble_eq_true rfl)
  exact am_vret (am_dec tmX5_init 11 rfl) rfl (Nat.le_of_ble_eq_true rfl) (Nat.le_of_ble_eq_true rfl)
def vc_17 (V : Nat → Nat → Option Nat) : Nat → Nat → Option Nat := am_up2 (vc_58 (am_up2 (vc_57 (am_up2 (vc_56 (am_up2 (vc_55 (am_up2 (vc_52 (am_up2 (vc_49 (am_up2 (vc_46 (am_up2 (vc_43 (am_up2 (vc_40 (am_up2 (vc_38 (am_up2 (vc_36 (am_up2 (vc_34 (am_up2 (vc_32 (am_up2 (vc_30 (am_up2 (vc_24 (am_up2 (vc_23 (am_up2 (am_up2 (am_up2 (am_up2 (am_up2 (V) 17 0 (some 18)) 17 1 (some 19)) 17 2 (some 20)) 17 3 (some 21)) 17 4 (some 22))) 17 5 (some 23))) 17 6 (some 24))) 18 0 (some 30))) 18 1 (some 32))) 18 2 (some 34))) 18 3 (some 36))) 18 4 (some 38))) 19 0 (some 40))) 19 1 (some 43))) 19 2 (some 46))) 19 3 (some 49))) 19 4 (some 52))) 20 0 (some 55))) 20 1 (some 56))) 20 2 (some 57))) 20 3 (some 58)
def dc_17 (D : am_D) : am_D := dc_58 (dc_57 (dc_56 (dc_55 (dc_52 (dc_49 (dc_46 (dc_43 (dc_40 (dc_38 (dc_36 (dc_34 (dc_32 (dc_30 (am_wI (am_wI (am_wI (dc_24 (dc_23 (am_wI (am_wI (am_wI (am_wI (D) 22 0 (1 : Int32)) 22 1 (100 : Int32)) 22 2 (500 : Int32)) 22 3 (1 : Int32)))) 17 11 (200 : Int32)) 17 12 (3 : Int32)) 17 13 (8 : Int32)))))))))))))))
theorem fr_17 {V : Nat → Nat → Option Nat} {D : am_D} (hF0 : am_FR V D 18) : am_FR (vc_17 V) (dc_17 D) 59 := by
  have hF1 : am_FR _ _ 19 := am_FR_le hF0 (Nat.le_of_ble_eq_true rfl)
  have hF2 : am_FR _ _ 19 := am_FR_R (a := 17) (j := 0) (v := some 18) hF1 (Nat.le_of_ble_eq_true rfl)
  have hF3 : am_FR _ _ 20 := am_FR_le hF2 (Nat.le_of_ble_eq_true rfl)
  have hF4 : am_FR _ _ 20 := am_FR_R (a := 17) (j := 1) (v := some 19) hF3 (Nat.le_of_ble_eq_true rfl)
  have hF5 : am_FR _ _ 21 := am_FR_le hF4 (Nat.le_of_ble_eq_true rfl)
  have hF6 : am_FR _ _ 21 := am_FR_R (a := 17) (j := 2) (v := some 20) hF5 (Nat.le_of_ble_eq_true rfl)
  have hF7 : am_FR _ _ 22 := am_FR_le hF6 (Nat.le_of_ble_eq_true rfl)
  have hF8 : am_FR _ _ 22 := am_FR_R (a := 17) (j := 3) (v := some 21) hF7 (Nat.le_of_ble_eq_true rfl)
  have hF9 : am_FR _ _ 23 := am_FR_le hF8 (Nat.le_of_ble_eq_true rfl)
  have hF10 : am_FR _ _ 23 := am_FR_I (a := 22) (j := 0) (v := (1 : Int32)) hF9 (Nat.le_of_ble_eq_true rfl)
  have hF11 : am_FR _ _ 23 := am_FR_I (a := 22) (j := 1) (v := (100 : Int32)) hF10 (Nat.le_of_ble_eq_true rfl)
  have hF12 : am_FR _ _ 23 := am_FR_I (a := 22) (j := 2) (v := (500 : Int32)) hF11 (Nat.le_of_ble_eq_true rfl)
  have hF13 : am_FR _ _ 23 := am_FR_I (a := 22) (j := 3) (v := (1 : Int32)) hF12 (Nat.le_of_ble_eq_true rfl)
  have hF14 : am_FR _ _ 23 := am_FR_R (a := 17) (j := 4) (v := some 22) hF13 (Nat.le_of_ble_eq_true rfl)
  have hF15 : am_FR _ _ 24 := am_FR_le hF14 (Nat.le_of_ble_eq_true rfl)
  have hF16 : am_FR _ _ 24 := fr_23 hF15
  have hF17 : am_FR _ _ 24 := am_FR_R (a := 17) (j := 5) (v := some 23) hF16 (Nat.le_of_ble_eq_true rfl)
  have hF18 : am_FR _ _ 25 := am_FR_le hF17 (Nat.le_of_ble_eq_true rfl)
  have hF19 : am_FR _ _ 30 := fr_24 hF18
  have hF20 : am_FR _ _ 30 := am_FR_R (a := 17) (j := 6) (v := some 24) hF19 (Nat.le_of_ble_eq_true rfl)
  have hF21 : am_FR _ _ 30 := am_FR_I (a := 17) (j := 11) (v := (200 : Int32)) hF20 (Nat.le_of_ble_eq_true rfl)
  have hF22 : am_FR _ _ 30 := am_FR_I (a := 17) (j := 12) (v := (3 : Int32)) hF21 (Nat.le_of_ble_eq_true rfl)
  have hF23 : am_FR _ _ 30 := am_FR_I (a := 17) (j := 13) (v := (8 : Int32)) hF22 (Nat.le_of_ble_eq_true rfl)
  have hF24 : am_FR _ _ 31 := am_FR_le hF23 (Nat.le_of_ble_eq_true rfl)
  have hF25 : am_FR _ _ 32 := fr_30 hF24
  have hF26 : am_FR _ _ 32 := am_FR_R (a := 18) (j := 0) (v := some 30) hF25 (Nat.le_of_ble_eq_true rfl)
  have hF27 : am_FR _ _ 33 := am_FR_le hF26 (Nat.le_of_ble_eq_true rfl)
  have hF28 : am_FR _ _ 34 := fr_32 hF27
  have hF29 : am_FR _ _ 34 := am_FR_R (a := 18) (j := 1) (v := some 32) hF28 (Nat.le_of_ble_eq_true rfl)
  have hF30 : am_FR _ _ 35 := am_FR_le hF29 (Nat.le_of_ble_eq_true rfl)
  have hF31 : am_FR _ _ 36 := fr_34 hF30
  have hF32 : am_FR _ _ 36 := am_FR_R (a := 18) (j := 2) (v := some 34) hF31 (Nat.le_of_ble_eq_true rfl)
  have hF33 : am_FR _ _ 37 := am_FR_le hF32 (Nat.le_of_ble_eq_true rfl)
  have hF34 : am_FR _ _ 38 := fr_36 hF33
  have hF35 : am_FR _ _ 38 := am_FR_R (a := 18) (j := 3) (v := some 36) hF34 (Nat.le_of_ble_eq_true rfl)
  have hF36 : am_FR _ _ 39 := am_FR_le hF35 (Nat.le_of_ble_eq_true rfl)
  have hF37 : am_FR _ _ 40 := fr_38 hF36
  have hF38 : am_FR _ _ 40 := am_FR_R (a := 18) (j := 4) (v := some 38) hF37 (Nat.le_of_ble_eq_true rfl)
  have hF39 : am_FR _ _ 41 := am_FR_le hF38 (Nat.le_of_ble_eq_true rfl)
  have hF40 : am_FR _ _ 43 := fr_40 hF39
  have hF41 : am_FR _ _ 43 := am_FR_R (a := 19) (j := 0) (v := some 40) hF40 (Nat.le_of_ble_eq_true rfl)
  have hF42 : am_FR _ _ 44 := am_FR_le hF41 (Nat.le_of_ble_eq_true rfl)
  have hF43 : am_FR _ _ 46 := fr_43 hF42
  have hF44 : am_FR _ _ 46 := am_FR_R (a := 19) (j := 1) (v := some 43) hF43 (Nat.le_of_ble_eq_true rfl)
  have hF45 : am_FR _ _ 47 := am_FR_le hF44 (Nat.le_of_ble_eq_true rfl)
  have hF46 : am_FR _ _ 49 := fr_46 hF45
  have hF47 : am_FR _ _ 49 := am_FR_R (a := 19) (j := 2) (v := some 46) hF46 (Nat.le_of_ble_eq_true rfl)
  have hF48 : am_FR _ _ 50 := am_FR_le hF47 (Nat.le_of_ble_eq_true rfl)
  have hF49 : am_FR _ _ 52 := fr_49 hF48
  have hF50 : am_FR _ _ 52 := am_FR_R (a := 19) (j := 3) (v := some 49) hF49 (Nat.le_of_ble_eq_true rfl)
  have hF51 : am_FR _ _ 53 := am_FR_le hF50 (Nat.le_of_ble_eq_true rfl)
  have hF52 : am_FR _ _ 55 := fr_52 hF51
  have hF53 : am_FR _ _ 55 := am_FR_R (a := 19) (j := 4) (v := some 52) hF52 (Nat.le_of_ble_eq_true rfl)
  have hF54 : am_FR _ _ 56 := am_FR_le hF53 (Nat.le_of_ble_eq_true rfl)
  have hF55 : am_FR _ _ 56 := fr_55 hF54
  have hF56 : am_FR _ _ 56 := am_FR_R (a := 20) (j := 0) (v := some 55) hF55 (Nat.le_of_ble_eq_true rfl)
  have hF57 : am_FR _ _ 57 := am_FR_le hF56 (Nat.le_of_ble_eq_true rfl)
  have hF58 : am_FR _ _ 57 := fr_56 hF57
  have hF59 : am_FR _ _ 57 := am_FR_R (a := 20) (j := 1) (v := some 56) hF58 (Nat.le_of_ble_eq_true rfl)
  have hF60 : am_FR _ _ 58 := am_FR_le hF59 (Nat.le_of_ble_eq_true rfl)
  have hF61 : am_FR _ _ 58 := fr_57 hF60
  have hF62 : am_FR _ _ 58 := am_FR_R (a := 20) (j := 2) (v := some 57) hF61 (Nat.le_of_ble_eq_true rfl)
  have hF63 : am_FR _ _ 59 := am_FR_le hF62 (Nat.le_of_ble_eq_true rfl)
  have hF64 : am_FR _ _ 59 := fr_58 hF63
  have hF65 : am_FR _ _ 59 := am_FR_R (a := 20) (j := 3) (v := some 58) hF64 (Nat.le_of_ble_eq_true rfl)
  exact hF65
set_option maxRecDepth 100000 in
set_option maxHeartbeats 4000000 in
theorem ci_17 {E : am_E} (hE : am_EH E) (hA : am_AO E) {V : Nat → Nat → Option Nat} {D : am_D} (hF0 : am_FR V D 18) : am_C E mX1_init 2 41 3240 [.ref 17] (am_Gk V 18) D (.inl none) (am_Gk (vc_17 V) 59) (dc_17 D) := by
  refine am_C_of (by decide +kernel) (Nat.le_of_ble_eq_true rfl) ?_
  change am_S E mX1_init 2 41 3240 (.inl none) (am_Gk (vc_17 V) 59) (dc_17 D) 0 0 0 [(0, .ref 17)] [] (am_Gk V 18) D
  refine am_aload_n (am_dec tmX1_init_0 0 rfl) rfl rfl ?_
  refine am_objInit (am_dec tmX1_init_0 1 rfl) lmo_X1_3 lk_obi lk_obc (by decide) ?_
  refine am_aload_n (am_dec tmX1_init_0 2 rfl) rfl rfl ?_
  refine am_iconst (v := (5 : Int32)) (am_dec tmX1_init_0 3 rfl) (by decide) ?_
  refine am_anewK (t := 2) (N := 5) hE hA (am_dec tmX1_init_0 4 rfl) (by decide) rfl lck_X1_9 (by decide) (by decide) (by decide) sh_18 hF0 (Nat.le_of_ble_eq_true rfl) (Nat.le_of_ble_eq_true rfl) ?_
  have hF1 : am_FR _ _ 19 := am_FR_le hF0 (Nat.le_of_ble_eq_true rfl)
  refine am_putRK (j := 0) hE (am_dec tmX1_init_0 5 rfl) sh_17 (by decide) cf1 (by decide) rfl lf_X1_11 (Or.inr ⟨rfl, rfl⟩) (fun _ => rfl) (fun _ => rfl) ?_
  have hF2 : am_FR _ _ 19 := am_FR_R (a := 17) (j := 0) (v := some 18) hF1 (Nat.le_of_ble_eq_true rfl)
  refine am_aload_n (am_dec tmX1_init_0 6 rfl) rfl rfl ?_
  refine am_iconst (v := (5 : Int32)) (am_dec tmX1_init_0 7 rfl) (by decide) ?_
  refine am_anewK (t := 3) (N := 5) hE hA (am_dec tmX1_init_0 8 rfl) (by decide) rfl lck_X1_17 (by decide) (by decide) (by decide) sh_19 hF2 (Nat.le_of_ble_eq_true rfl) (Nat.le_of_ble_eq_true rfl) ?_
  have hF3 : am_FR _ _ 20 := am_FR_le hF2 (Nat.le_of_ble_eq_true rfl)
  refine am_putRK (j := 1) hE (am_dec tmX1_init_0 9 rfl) sh_17 (by decide) cf1 (by decide) rfl lf_X1_19 (Or.inr ⟨rfl, rfl⟩) (fun _ => rfl) (fun _ => rfl) ?_
  have hF4 : am_FR _ _ 20 := am_FR_R (a := 17) (j := 1) (v := some 19) hF3 (Nat.le_of_ble_eq_true rfl)
  refine am_aload_n (am_dec tmX1_init_0 10 rfl) rfl rfl ?_
  refine am_iconst (v := (4 : Int32)) (am_dec tmX1_init_0 11 rfl) (by decide) ?_
  refine am_anewK (t := 4) (N := 4) hE hA (am_dec tmX1_init_0 12 rfl) (by decide) rfl lck_X1_23 (by decide) (by decide) (by decide) sh_20 hF4 (Nat.le_of_ble_eq_true rfl) (Nat.le_of_ble_eq_true rfl) ?_
  have hF5 : am_FR _ _ 21 := am_FR_le hF4 (Nat.le_of_ble_eq_true rfl)
  refine am_putRK (j := 2) hE (am_dec tmX1_init_0 13 rfl) sh_17 (by decide) cf1 (by decide) rfl lf_X1_25 (Or.inr ⟨rfl, rfl⟩) (fun _ => rfl) (fun _ => rfl) ?_
  have hF6 : am_FR _ _ 21 := am_FR_R (a := 17) (j := 2) (v := some 20) hF5 (Nat.le_of_ble_eq_true rfl)
  refine am_aload_n (am_dec tmX1_init_0 14 rfl) rfl rfl ?_
  refine am_bipush (v := (6 : Int32)) (am_dec tmX1_init_0 15 rfl) (by decide) ?_
  refine am_newarrK (t := 0) (N := 6) hE (am_dec tmX1_init_0 16 rfl) rfl (Or.inl ⟨rfl, rfl⟩) lk_ai (by decide) (by decide) sh_21 hF6 (Nat.le_of_ble_eq_true rfl) (Nat.le_of_ble_eq_true rfl) ?_
  have hF7 : am_FR _ _ 22 := am_FR_le hF6 (Nat.le_of_ble_eq_true rfl)
  refine am_putRK (j := 3) hE (am_dec tmX1_init_0 17 rfl) sh_17 (by decide) cf1 (by decide) rfl lf_X1_29 (Or.inr ⟨rfl, rfl⟩) (fun _ => rfl) (fun _ => rfl) ?_
  have hF8 : am_FR _ _ 22 := am_FR_R (a := 17) (j := 3) (v := some 21) hF7 (Nat.le_of_ble_eq_true rfl)
  refine am_aload_n (am_dec tmX1_init_0 18 rfl) rfl rfl ?_
  refine am_iconst (v := (4 : Int32)) (am_dec tmX1_init_0 19 rfl) (by decide) ?_
  refine am_newarrK (t := 0) (N := 4) hE (am_dec tmX1_init_0 20 rfl) rfl (Or.inl ⟨rfl, rfl⟩) lk_ai (by decide) (by decide) sh_22 hF8 (Nat.le_of_ble_eq_true rfl) (Nat.le_of_ble_eq_true rfl) ?_
  have hF9 : am_FR _ _ 23 := am_FR_le hF8 (Nat.le_of_ble_eq_true rfl)
  refine am_dup (am_dec tmX1_init_0 21 rfl) rfl ?_
  refine am_iconst (v := (0 : Int32)) (am_dec tmX1_init_0 22 rfl) (by decide) ?_
  refine am_iconst (v := (1 : Int32)) (am_dec tmX1_init_0 23 rfl) (by decide) ?_
  refine am_iastK (j := 0) hE (am_dec tmX1_init_0 24 rfl) sh_22 (by decide) (by decide) (by decide) (by decide) ?_
  have hF10 : am_FR _ _ 23 := am_FR_I (a := 22) (j := 0) (v := (1 : Int32)) hF9 (Nat.le_of_ble_eq_true rfl)
  refine am_dup (am_dec tmX1_init_0 25 rfl) rfl ?_
  refine am_iconst (v := (1 : Int32)) (am_dec tmX1_init_0 26 rfl) (by decide) ?_
  refine am_bipush (v := (100 : Int32)) (am_dec tmX1_init_0 27 rfl) (by decide) ?_
  refine am_iastK (j := 1) hE (am_dec tmX1_init_0 28 rfl) sh_22 (by decide) (by decide) (by decide) (by decide) ?_
  have hF11 : am_FR _ _ 23 := am_FR_I (a := 22) (j := 1) (v := (100 : Int32)) hF10 (Nat.le_of_ble_eq_true rfl)
  refine am_dup (am_dec tmX1_init_0 29 rfl) rfl ?_
  refine am_iconst (v := (2 : Int32)) (am_dec tmX1_init_0 30 rfl) (by decide) ?_
  refine am_sipush (v := (500 : Int32)) (am_dec tmX1_init_0 31 rfl) (by decide) ?_
  refine am_iastK (j := 2) hE (am_dec tmX1_init_0 32 rfl) sh_22 (by decide) (by decide) (by decide) (by decide) ?_
  have hF12 : am_FR _ _ 23 := am_FR_I (a := 22) (j := 2) (v := (500 : Int32)) hF11 (Nat.le_of_ble_eq_true rfl)
  refine am_dup (am_dec tmX1_init_0 33 rfl) rfl ?_
  refine am_iconst (v := (3 : Int32)) (am_dec tmX1_init_0 34 rfl) (by decide) ?_
  refine am_iconst (v := (1 : Int32)) (am_dec tmX1_init_0 35 rfl) (by decide) ?_
  refine am_iastK (j := 3) hE (am_dec tmX1_init_0 36 rfl) sh_22 (by decide) (by decide) (by decide) (by decide) ?_
  have hF13 : am_FR _ _ 23 := am_FR_I (a := 22) (j := 3) (v := (1 : Int32)) hF12 (Nat.le_of_ble_eq_true rfl)
  refine am_putRK (j := 4) hE (am_dec tmX1_init_0 37 rfl) sh_17 (by decide) cf1 (by decide) rfl lf_X1_33 (Or.inr ⟨rfl, rfl⟩) (fun _ => rfl) (fun _ => rfl) ?_
  have hF14 : am_FR _ _ 23 := am_FR_R (a := 17) (j := 4) (v := some 22) hF13 (Nat.le_of_ble_eq_true rfl)
  refine am_aload_n (am_dec tmX1_init_0 38 rfl) rfl rfl ?_
  refine am_newK hE (am_dec tmX1_init_0 39 rfl) cf5 lck_X1_23 lk_ins_X5 lk_ini_X5 sh_23 hF14 dv_X5 (Nat.le_of_ble_eq_true rfl) (Nat.le_of_ble_eq_true rfl) ?_
  have hF15 : am_FR _ _ 24 := am_FR_le hF14 (Nat.le_of_ble_eq_true rfl)
  refine am_dup (am_dec tmX1_init_0 40 rfl) rfl ?_
  refine am_callI (As := []) (st := [.ref 23, .ref 17]) (am_dec tmX1_init_0 41 rfl) ok_X5_init rfl rfl rfl lm_X1_36 in_X5_init (ci_23 hE hA hF15) rfl (by decide) (by decide) (Nat.le_of_ble_eq_true rfl) (Nat.le_of_ble_eq_true rfl) rfl ?_
  have hF16 : am_FR _ _ 24 := fr_23 hF15
  refine am_putRK (j := 5) hE (am_dec tmX1_init_0 42 rfl) sh_17 (by decide) cf1 (by decide) rfl lf_X1_37 (Or.inr ⟨rfl, rfl⟩) (fun _ => rfl) (fun _ => rfl) ?_
  have hF17 : am_FR _ _ 24 := am_FR_R (a := 17) (j := 5) (v := some 23) hF16 (Nat.le_of_ble_eq_true rfl)
  refine am_aload_n (am_dec tmX1_init_0 43 rfl) rfl rfl ?_
  refine am_newK hE (am_dec tmX1_init_0 44 rfl) cf6 lck_X1_41 lk_ins_X6 lk_ini_X6 sh_24 hF17 dv_X6 (Nat.le_of_ble_eq_true rfl) (Nat.le_of_ble_eq_true rfl) ?_
  have hF18 : am_FR _ _ 25 := am_FR_le hF17 (Nat.le_of_ble_eq_true rfl)
  refine am_dup (am_dec tmX1_init_0 45 rfl) rfl ?_
  refine am_callI (As := []) (st := [.ref 24, .ref 17]) (am_dec tmX1_init_0 46 rfl) ok_X6_init rfl rfl rfl lm_X1_43 in_X6_init (ci_24 hE hA hF18) rfl (by decide) (by decide) (Nat.le_of_ble_eq_true rfl) (Nat.le_of_ble_eq_true rfl) rfl ?_
  have hF19 : am_FR _ _ 30 := fr_24 hF18
  refine am_putRK (j := 6) hE (am_dec tmX1_init_0 47 rfl) sh_17 (by decide) cf1 (by decide) rfl lf_X1_44 (Or.inr ⟨rfl, rfl⟩) (fun _ => rfl) (fun _ => rfl) ?_
  have hF20 : am_FR _ _ 30 := am_FR_R (a := 17) (j := 6) (v := some 24) hF19 (Nat.le_of_ble_eq_true rfl)
  refine am_aload_n (am_dec tmX1_init_0 48 rfl) rfl rfl ?_
  refine am_sipush (v := (200 : Int32)) (am_dec tmX1_init_0 49 rfl) (by decide) ?_
  refine am_putIK (j := 11) hE (am_dec tmX1_init_0 50 rfl) sh_17 (by decide) cf1 (by decide) rfl lf_X1_48 (Or.inr ⟨rfl, rfl⟩) rfl rfl ?_
  have hF21 : am_FR _ _ 30 := am_FR_I (a := 17) (j := 11) (v := (200 : Int32)) hF20 (Nat.le_of_ble_eq_true rfl)
  refine am_aload_n (am_dec tmX1_init_0 51 rfl) rfl rfl ?_
  refine am_iconst (v := (3 : Int32)) (am_dec tmX1_init_0 52 rfl) (by decide) ?_
  refine am_putIK (j := 12) hE (am_dec tmX1_init_0 53 rfl) sh_17 (by decide) cf1 (by decide) rfl lf_X1_52 (Or.inr ⟨rfl, rfl⟩) rfl rfl ?_
  have hF22 : am_FR _ _ 30 := am_FR_I (a := 17) (j := 12) (v := (3 : Int32)) hF21 (Nat.le_of_ble_eq_true rfl)
  refine am_aload_n (am_dec tmX1_init_0 54 rfl) rfl rfl ?_
  refine am_bipush (v := (8 : Int32)) (am_dec tmX1_init_0 55 rfl) (by decide) ?_
  refine am_putIK (j := 13) hE (am_dec tmX1_init_0 56 rfl) sh_17 (by decide) cf1 (by decide) rfl lf_X1_55 (Or.inr ⟨rfl, rfl⟩) rfl rfl ?_
  have hF23 : am_FR _ _ 30 := am_FR_I (a := 17) (j := 13) (v := (8 : Int32)) hF22 (Nat.le_of_ble_eq_true rfl)
  refine am_iconst (v := (0 : Int32)) (am_dec tmX1_init_0 57 rfl) (by decide) ?_
  refine am_istore_n (lv' := [(0, .ref 17), (1, .int (0 : Int32))]) (am_dec tmX1_init_0 58 rfl) rfl (by decide) rfl ?_
  refine am_iload_n (am_dec tmX1_init_0 59 rfl) rfl rfl ?_
  refine am_iconst (v := (5 : Int32)) (am_dec tmX1_init_1 0 rfl) (by decide) ?_
  refine am_icmp_ge (tgt := 131) (am_dec tmX1_init_1 1 rfl) (by decide) (fun h => absurd h (by decide)) (fun _ => ?_)
  refine am_aload_n (am_dec tmX1_init_1 2 rfl) rfl rfl ?_
  refine am_getRK (r := 18) (j := 0) hE (am_dec tmX1_init_1 3 rfl) sh_17 (by decide) cf1 (by decide) rfl lf_X1_11 rfl ?_
  refine am_iload_n (am_dec tmX1_init_1 4 rfl) rfl rfl ?_
  refine am_newK hE (am_dec tmX1_init_1 5 rfl) cf7 lck_X1_9 lk_ins_X7 lk_ini_X7 sh_30 hF23 dv_X7 (Nat.le_of_ble_eq_true rfl) (Nat.le_of_ble_eq_true rfl) ?_
  have hF24 : am_FR _ _ 31 := am_FR_le hF23 (Nat.le_of_ble_eq_true rfl)
  refine am_dup (am_dec tmX1_init_1 6 rfl) rfl ?_
  refine am_sipush (v := (600 : Int32)) (am_dec tmX1_init_1 7 rfl) (by decide) ?_
  refine am_callI (As := [.int (600 : Int32)]) (st := [.ref 30, .int (0 : Int32), .ref 18]) (am_dec tmX1_init_1 8 rfl) ok_X7_init rfl rfl rfl lm_X1_58 in_X7_init (ci_30 hE hA hF24) rfl (by decide) (by decide) (Nat.le_of_ble_eq_true rfl) (Nat.le_of_ble_eq_true rfl) rfl ?_
  have hF25 : am_FR _ _ 32 := fr_30 hF24
  refine am_aastK (t := 2) (j := 0) hE (am_dec tmX1_init_1 9 rfl) sh_18 (by decide) (by decide) rfl sh_30 (by decide) cf7 (by decide) (by decide) (by decide) ?_
  have hF26 : am_FR _ _ 32 := am_FR_R (a := 18) (j := 0) (v := some 30) hF25 (Nat.le_of_ble_eq_true rfl)
  refine am_iinc (v := (1 : Int32)) (lv' := [(0, .ref 17), (1, .int (1 : Int32))]) (am_dec tmX1_init_1 10 rfl) rfl (by decide) (by decide) rfl ?_
  refine am_goto (tgt := 104) (am_dec tmX1_init_1 11 rfl) (by decide) ?_
  refine am_iload_n (am_dec tmX1_init_0 59 rfl) rfl rfl ?_
  refine am_iconst (v := (5 : Int32)) (am_dec tmX1_init_1 0 rfl) (by decide) ?_
  refine am_icmp_ge (tgt := 131) (am_dec tmX1_init_1 1 rfl) (by decide) (fun h => absurd h (by decide)) (fun _ => ?_)
  refine am_aload_n (am_dec tmX1_init_1 2 rfl) rfl rfl ?_
  refine am_getRK (r := 18) (j := 0) hE (am_dec tmX1_init_1 3 rfl) sh_17 (by decide) cf1 (by decide) rfl lf_X1_11 rfl ?_
  refine am_iload_n (am_dec tmX1_init_1 4 rfl) rfl rfl ?_
  refine am_newK hE (am_dec tmX1_init_1 5 rfl) cf7 lck_X1_9 lk_ins_X7 lk_ini_X7 sh_32 hF26 dv_X7 (Nat.le_of_ble_eq_true rfl) (Nat.le_of_ble_eq_true rfl) ?_
  have hF27 : am_FR _ _ 33 := am_FR_le hF26 (Nat.le_of_ble_eq_true rfl)
  refine am_dup (am_dec tmX1_init_1 6 rfl) rfl ?_
  refine am_sipush (v := (600 : Int32)) (am_dec tmX1_init_1 7 rfl) (by decide) ?_
  refine am_callI (As := [.int (600 : Int32)]) (st := [.ref 32, .int (1 : Int32), .ref 18]) (am_dec tmX1_init_1 8 rfl) ok_X7_init rfl rfl rfl lm_X1_58 in_X7_init (ci_32 hE hA hF27) rfl (by decide) (by decide) (Nat.le_of_ble_eq_true rfl) (Nat.le_of_ble_eq_true rfl) rfl ?_
  have hF28 : am_FR _ _ 34 := fr_32 hF27
  refine am_aastK (t := 2) (j := 1) hE (am_dec tmX1_init_1 9 rfl) sh_18 (by decide) (by decide) rfl sh_32 (by decide) cf7 (by decide) (by decide) (by decide) ?_
  have hF29 : am_FR _ _ 34 := am_FR_R (a := 18) (j := 1) (v := some 32) hF28 (Nat.le_of_ble_eq_true rfl)
  refine am_iinc (v := (1 : Int32)) (lv' := [(0, .ref 17), (1, .int (2 : Int32))]) (am_dec tmX1_init_1 10 rfl) rfl (by decide) (by decide) rfl ?_
  refine am_goto (tgt := 104) (am_dec tmX1_init_1 11 rfl) (by decide) ?_
  refine am_iload_n (am_dec tmX1_init_0 59 rfl) rfl rfl ?_
  refine am_iconst (v := (5 : Int32)) (am_dec tmX1_init_1 0 rfl) (by decide) ?_
  refine am_icmp_ge (tgt := 131) (am_dec tmX1_init_1 1 rfl) (by decide) (fun h => absurd h (by decide)) (fun _ => ?_)
  refine am_aload_n (am_dec tmX1_init_1 2 rfl) rfl rfl ?_
  refine am_getRK (r := 18) (j := 0) hE (am_dec tmX1_init_1 3 rfl) sh_17 (by decide) cf1 (by decide) rfl lf_X1_11 rfl ?_
  refine am_iload_n (am_dec tmX1_init_1 4 rfl) rfl rfl ?_
  refine am_newK hE (am_dec tmX1_init_1 5 rfl) cf7 lck_X1_9 lk_ins_X7 lk_ini_X7 sh_34 hF29 dv_X7 (Nat.le_of_ble_eq_true rfl) (Nat.le_of_ble_eq_true rfl) ?_
  have hF30 : am_FR _ _ 35 := am_FR_le hF29 (Nat.le_of_ble_eq_true rfl)
  refine am_dup (am_dec tmX1_init_1 6 rfl) rfl ?_
  refine am_sipush (v := (600 : Int32)) (am_dec tmX1_init_1 7 rfl) (by decide) ?_
  refine am_callI (As := [.int (600 : Int32)]) (st := [.ref 34, .int (2 : Int32), .ref 18]) (am_dec tmX1_init_1 8 rfl) ok_X7_init rfl rfl rfl lm_X1_58 in_X7_init (ci_34 hE hA hF30) rfl (by decide) (by decide) (Nat.le_of_ble_eq_true rfl) (Nat.le_of_ble_eq_true rfl) rfl ?_
  have hF31 : am_FR _ _ 36 := fr_34 hF30
  refine am_aastK (t := 2) (j := 2) hE (am_dec tmX1_init_1 9 rfl) sh_18 (by decide) (by decide) rfl sh_34 (by decide) cf7 (by decide) (by decide) (by decide) ?_
  have hF32 : am_FR _ _ 36 := am_FR_R (a := 18) (j := 2) (v := some 34) hF31 (Nat.le_of_ble_eq_true rfl)
  refine am_iinc (v := (1 : Int32)) (lv' := [(0, .ref 17), (1, .int (3 : Int32))]) (am_dec tmX1_init_1 10 rfl) rfl (by decide) (by decide) rfl ?_
  refine am_goto (tgt := 104) (am_dec tmX1_init_1 11 rfl) (by decide) ?_
  refine am_iload_n (am_dec tmX1_init_0 59 rfl) rfl rfl ?_
  refine am_iconst (v := (5 : Int32)) (am_dec tmX1_init_1 0 rfl) (by decide) ?_
  refine am_icmp_ge (tgt := 131) (am_dec tmX1_init_1 1 rfl) (by decide) (fun h => absurd h (by decide)) (fun _ => ?_)
  refine am_aload_n (am_dec tmX1_init_1 2 rfl) rfl rfl ?_
  refine am_getRK (r := 18) (j := 0) hE (am_dec tmX1_init_1 3 rfl) sh_17 (by decide) cf1 (by decide) rfl lf_X1_11 rfl ?_
  refine am_iload_n (am_dec tmX1_init_1 4 rfl) rfl rfl ?_
  refine am_newK hE (am_dec tmX1_init_1 5 rfl) cf7 lck_X1_9 lk_ins_X7 lk_ini_X7 sh_36 hF32 dv_X7 (Nat.le_of_ble_eq_true rfl) (Nat.le_of_ble_eq_true rfl) ?_
  have hF33 : am_FR _ _ 37 := am_FR_le hF32 (Nat.le_of_ble_eq_true rfl)
  refine am_dup (am_dec tmX1_init_1 6 rfl) rfl ?_
  refine am_sipush (v := (600 : Int32)) (am_dec tmX1_init_1 7 rfl) (by decide) ?_
  refine am_callI (As := [.int (600 : Int32)]) (st := [.ref 36, .int (3 : Int32), .ref 18]) (am_dec tmX1_init_1 8 rfl) ok_X7_init rfl rfl rfl lm_X1_58 in_X7_init (ci_36 hE hA hF33) rfl (by decide) (by decide) (Nat.le_of_ble_eq_true rfl) (Nat.le_of_ble_eq_true rfl) rfl ?_
  have hF34 : am_FR _ _ 38 := fr_36 hF33
  refine am_aastK (t := 2) (j := 3) hE (am_dec tmX1_init_1 9 rfl) sh_18 (by decide) (by decide) rfl sh_36 (by decide) cf7 (by decide) (by decide) (by decide) ?_
  have hF35 : am_FR _ _ 38 := am_FR_R (a := 18) (j := 3) (v := some 36) hF34 (Nat.le_of_ble_eq_true rfl)
  refine am_iinc (v := (1 : Int32)) (lv' := [(0, .ref 17), (1, .int (4 : Int32))]) (am_dec tmX1_init_1 10 rfl) rfl (by decide) (by decide) rfl ?_
  refine am_goto (tgt := 104) (am_dec tmX1_init_1 11 rfl) (by decide) ?_
  refine am_iload_n (am_dec tmX1_init_0 59 rfl) rfl rfl ?_
  refine am_iconst (v := (5 : Int32)) (am_dec tmX1_init_1 0 rfl) (by decide) ?_
  refine am_icmp_ge (tgt := 131) (am_dec tmX1_init_1 1 rfl) (by decide) (fun h => absurd h (by decide)) (fun _ => ?_)
  refine am_aload_n (am_dec tmX1_init_1 2 rfl) rfl rfl ?_
  refine am_getRK (r := 18) (j := 0) hE (am_dec tmX1_init_1 3 rfl) sh_17 (by decide) cf1 (by decide) rfl lf_X1_11 rfl ?_
  refine am_iload_n (am_dec tmX1_init_1 4 rfl) rfl rfl ?_
  refine am_newK hE (am_dec tmX1_init_1 5 rfl) cf7 lck_X1_9 lk_ins_X7 lk_ini_X7 sh_38 hF35 dv_X7 (Nat.le_of_ble_eq_true rfl) (Nat.le_of_ble_eq_true rfl) ?_
  have hF36 : am_FR _ _ 39 := am_FR_le hF35 (Nat.le_of_ble_eq_true rfl)
  refine am_dup (am_dec tmX1_init_1 6 rfl) rfl ?_
  refine am_sipush (v := (600 : Int32)) (am_dec tmX1_init_1 7 rfl) (by decide) ?_
  refine am_callI (As := [.int (600 : Int32)]) (st := [.ref 38, .int (4 : Int32), .ref 18]) (am_dec tmX1_init_1 8 rfl) ok_X7_init rfl rfl rfl lm_X1_58 in_X7_init (ci_38 hE hA hF36) rfl (by decide) (by decide) (Nat.le_of_ble_eq_true rfl) (Nat.le_of_ble_eq_true rfl) rfl ?_
  have hF37 : am_FR _ _ 40 := fr_38 hF36
  refine am_aastK (t := 2) (j := 4) hE (am_dec tmX1_init_1 9 rfl) sh_18 (by decide) (by decide) rfl sh_38 (by decide) cf7 (by decide) (by decide) (by decide) ?_
  have hF38 : am_FR _ _ 40 := am_FR_R (a := 18) (j := 4) (v := some 38) hF37 (Nat.le_of_ble_eq_true rfl)
  refine am_iinc (v := (1 : Int32)) (lv' := [(0, .ref 17), (1, .int (5 : Int32))]) (am_dec tmX1_init_1 10 rfl) rfl (by decide) (by decide) rfl ?_
  refine am_goto (tgt := 104) (am_dec tmX1_init_1 11 rfl) (by decide) ?_
  refine am_iload_n (am_dec tmX1_init_0 59 rfl) rfl rfl ?_
  refine am_iconst (v := (5 : Int32)) (am_dec tmX1_init_1 0 rfl) (by decide) ?_
  refine am_icmp_ge (tgt := 131) (am_dec tmX1_init_1 1 rfl) (by decide) (fun _ => ?_) (fun h => absurd (by decide) h)
  refine am_iconst (v := (0 : Int32)) (am_dec tmX1_init_1 12 rfl) (by decide) ?_
  refine am_istore_n (lv' := [(0, .ref 17), (1, .int (0 : Int32))]) (am_dec tmX1_init_1 13 rfl) rfl (by decide) rfl ?_
  refine am_iload_n (am_dec tmX1_init_1 14 rfl) rfl rfl ?_
  refine am_iconst (v := (5 : Int32)) (am_dec tmX1_init_1 15 rfl) (by decide) ?_
  refine am_icmp_ge (tgt := 157) (am_dec tmX1_init_1 16 rfl) (by decide) (fun h => absurd h (by decide)) (fun _ => ?_)
  refine am_aload_n (am_dec tmX1_init_1 17 rfl) rfl rfl ?_
  refine am_getRK (r := 19) (j := 1) hE (am_dec tmX1_init_1 18 rfl) sh_17 (by decide) cf1 (by decide) rfl lf_X1_19 rfl ?_
  refine am_iload_n (am_dec tmX1_init_1 19 rfl) rfl rfl ?_
  refine am_newK hE (am_dec tmX1_init_1 20 rfl) cf9 lck_X1_17 lk_ins_X9 lk_ini_X9 sh_40 hF38 dv_X9 (Nat.le_of_ble_eq_true rfl) (Nat.le_of_ble_eq_true rfl) ?_
  have hF39 : am_FR _ _ 41 := am_FR_le hF38 (Nat.le_of_ble_eq_true rfl)
  refine am_dup (am_dec tmX1_init_1 21 rfl) rfl ?_
  refine am_callI (As := []) (st := [.ref 40, .int (0 : Int32), .ref 19]) (am_dec tmX1_init_1 22 rfl) ok_X9_init rfl rfl rfl lm_X1_61 in_X9_init (ci_40 hE hA hF39) rfl (by decide) (by decide) (Nat.le_of_ble_eq_true rfl) (Nat.le_of_ble_eq_true rfl) rfl ?_
  have hF40 : am_FR _ _ 43 := fr_40 hF39
  refine am_aastK (t := 3) (j := 0) hE (am_dec tmX1_init_1 23 rfl) sh_19 (by decide) (by decide) rfl sh_40 (by decide) cf9 (by decide) (by decide) (by decide) ?_
  have hF41 : am_FR _ _ 43 := am_FR_R (a := 19) (j := 0) (v := some 40) hF40 (Nat.le_of_ble_eq_true rfl)
  refine am_iinc (v := (1 : Int32)) (lv' := [(0, .ref 17), (1, .int (1 : Int32))]) (am_dec tmX1_init_1 24 rfl) rfl (by decide) (by decide) rfl ?_
  refine am_goto (tgt := 133) (am_dec tmX1_init_1 25 rfl) (by decide) ?_
  refine am_iload_n (am_dec tmX1_init_1 14 rfl) rfl rfl ?_
  refine am_iconst (v := (5 : Int32)) (am_dec tmX1_init_1 15 rfl) (by decide) ?_
  refine am_icmp_ge (tgt := 157) (am_dec tmX1_init_1 16 rfl) (by decide) (fun h => absurd h (by decide)) (fun _ => ?_)
  refine am_aload_n (am_dec tmX1_init_1 17 rfl) rfl rfl ?_
  refine am_getRK (r := 19) (j := 1) hE (am_dec tmX1_init_1 18 rfl) sh_17 (by decide) cf1 (by decide) rfl lf_X1_19 rfl ?_
  refine am_iload_n (am_dec tmX1_init_1 19 rfl) rfl rfl ?_
  refine am_newK hE (am_dec tmX1_init_1 20 rfl) cf9 lck_X1_17 lk_ins_X9 lk_ini_X9 sh_43 hF41 dv_X9 (Nat.le_of_ble_eq_true rfl) (Nat.le_of_ble_eq_true rfl) ?_
  have hF42 : am_FR _ _ 44 := am_FR_le hF41 (Nat.le_of_ble_eq_true rfl)
  refine am_dup (am_dec tmX1_init_1 21 rfl) rfl ?_
  refine am_callI (As := []) (st := [.ref 43, .int (1 : Int32), .ref 19]) (am_dec tmX1_init_1 22 rfl) ok_X9_init rfl rfl rfl lm_X1_61 in_X9_init (ci_43 hE hA hF42) rfl (by decide) (by decide) (Nat.le_of_ble_eq_true rfl) (Nat.le_of_ble_eq_true rfl) rfl ?_
  have hF43 : am_FR _ _ 46 := fr_43 hF42
  refine am_aastK (t := 3) (j := 1) hE (am_dec tmX1_init_1 23 rfl) sh_19 (by decide) (by decide) rfl sh_43 (by decide) cf9 (by decide) (by decide) (by decide) ?_
  have hF44 : am_FR _ _ 46 := am_FR_R (a := 19) (j := 1) (v := some 43) hF43 (Nat.le_of_ble_eq_true rfl)
  refine am_iinc (v := (1 : Int32)) (lv' := [(0, .ref 17), (1, .int (2 : Int32))]) (am_dec tmX1_init_1 24 rfl) rfl (by decide) (by decide) rfl ?_
  refine am_goto (tgt := 133) (am_dec tmX1_init_1 25 rfl) (by decide) ?_
  refine am_iload_n (am_dec tmX1_init_1 14 rfl) rfl rfl ?_
  refine am_iconst (v := (5 : Int32)) (am_dec tmX1_init_1 15 rfl) (by decide) ?_
  refine am_icmp_ge (tgt := 157) (am_dec tmX1_init_1 16 rfl) (by decide) (fun h => absurd h (by decide)) (fun _ => ?_)
  refine am_aload_n (am_dec tmX1_init_1 17 rfl) rfl rfl ?_
  refine am_getRK (r := 19) (j := 1) hE (am_dec tmX1_init_1 18 rfl) sh_17 (by decide) cf1 (by decide) rfl lf_X1_19 rfl ?_
  refine am_iload_n (am_dec tmX1_init_1 19 rfl) rfl rfl ?_
  refine am_newK hE (am_dec tmX1_init_1 20 rfl) cf9 lck_X1_17 lk_ins_X9 lk_ini_X9 sh_46 hF44 dv_X9 (Nat.le_of_ble_eq_true rfl) (Nat.le_of_ble_eq_true rfl) ?_
  have hF45 : am_FR _ _ 47 := am_FR_le hF44 (Nat.le_of_ble_eq_true rfl)
  refine am_dup (am_dec tmX1_init_1 21 rfl) rfl ?_
  refine am_callI (As := []) (st := [.ref 46, .int (2 : Int32), .ref 19]) (am_dec tmX1_init_1 22 rfl) ok_X9_init rfl rfl rfl lm_X1_61 in_X9_init (ci_46 hE hA hF45) rfl (by decide) (by decide) (Nat.le_of_ble_eq_true rfl) (Nat.le_of_ble_eq_true rfl) rfl ?_
  have hF46 : am_FR _ _ 49 := fr_46 hF45
  refine am_aastK (t := 3) (j := 2) hE (am_dec tmX1_init_1 23 rfl) sh_19 (by decide) (by decide) rfl sh_46 (by decide) cf9 (by decide) (by decide) (by decide) ?_
  have hF47 : am_FR _ _ 49 := am_FR_R (a := 19) (j := 2) (v := some 46) hF46 (Nat.le_of_ble_eq_true rfl)
  refine am_iinc (v := (1 : Int32)) (lv' := [(0, .ref 17), (1, .int (3 : Int32))]) (am_dec tmX1_init_1 24 rfl) rfl (by decide) (by decide) rfl ?_
  refine am_goto (tgt := 133) (am_dec tmX1_init_1 25 rfl) (by decide) ?_
  refine am_iload_n (am_dec tmX1_init_1 14 rfl) rfl rfl ?_
  refine am_iconst (v := (5 : Int32)) (am_dec tmX1_init_1 15 rfl) (by decide) ?_
  refine am_icmp_ge (tgt := 157) (am_dec tmX1_init_1 16 rfl) (by decide) (fun h => absurd h (by decide)) (fun _ => ?_)
  refine am_aload_n (am_dec tmX1_init_1 17 rfl) rfl rfl ?_
  refine am_getRK (r := 19) (j := 1) hE (am_dec tmX1_init_1 18 rfl) sh_17 (by decide) cf1 (by decide) rfl lf_X1_19 rfl ?_
  refine am_iload_n (am_dec tmX1_init_1 19 rfl) rfl rfl ?_
  refine am_newK hE (am_dec tmX1_init_1 20 rfl) cf9 lck_X1_17 lk_ins_X9 lk_ini_X9 sh_49 hF47 dv_X9 (Nat.le_of_ble_eq_true rfl) (Nat.le_of_ble_eq_true rfl) ?_
  have hF48 : am_FR _ _ 50 := am_FR_le hF47 (Nat.le_of_ble_eq_true rfl)
  refine am_dup (am_dec tmX1_init_1 21 rfl) rfl ?_
  refine am_callI (As := []) (st := [.ref 49, .int (3 : Int32), .ref 19]) (am_dec tmX1_init_1 22 rfl) ok_X9_init rfl rfl rfl lm_X1_61 in_X9_init (ci_49 hE hA hF48) rfl (by decide) (by decide) (Nat.le_of_ble_eq_true rfl) (Nat.le_of_ble_eq_true rfl) rfl ?_
  have hF49 : am_FR _ _ 52 := fr_49 hF48
  refine am_aastK (t := 3) (j := 3) hE (am_dec tmX1_init_1 23 rfl) sh_19 (by decide) (by decide) rfl sh_49 (by decide) cf9 (by decide) (by decide) (by decide) ?_
  have hF50 : am_FR _ _ 52 := am_FR_R (a := 19) (j := 3) (v := some 49) hF49 (Nat.le_of_ble_eq_true rfl)
  refine am_iinc (v := (1 : Int32)) (lv' := [(0, .ref 17), (1, .int (4 : Int32))]) (am_dec tmX1_init_1 24 rfl) rfl (by decide) (by decide) rfl ?_
  refine am_goto (tgt := 133) (am_dec tmX1_init_1 25 rfl) (by decide) ?_
  refine am_iload_n (am_dec tmX1_init_1 14 rfl) rfl rfl ?_
  refine am_iconst (v := (5 : Int32)) (am_dec tmX1_init_1 15 rfl) (by decide) ?_
  refine am_icmp_ge (tgt := 157) (am_dec tmX1_init_1 16 rfl) (by decide) (fun h => absurd h (by decide)) (fun _ => ?_)
  refine am_aload_n (am_dec tmX1_init_1 17 rfl) rfl rfl ?_
  refine am_getRK (r := 19) (j := 1) hE (am_dec tmX1_init_1 18 rfl) sh_17 (by decide) cf1 (by decide) rfl lf_X1_19 rfl ?_
  refine am_iload_n (am_dec tmX1_init_1 19 rfl) rfl rfl ?_
  refine am_newK hE (am_dec tmX1_init_1 20 rfl) cf9 lck_X1_17 lk_ins_X9 lk_ini_X9 sh_52 hF50 dv_X9 (Nat.le_of_ble_eq_true rfl) (Nat.le_of_ble_eq_true rfl) ?_
  have hF51 : am_FR _ _ 53 := am_FR_le hF50 (Nat.le_of_ble_eq_true rfl)
  refine am_dup (am_dec tmX1_init_1 21 rfl) rfl ?_
  refine am_callI (As := []) (st := [.ref 52, .int (4 : Int32), .ref 19]) (am_dec tmX1_init_1 22 rfl) ok_X9_init rfl rfl rfl lm_X1_61 in_X9_init (ci_52 hE hA hF51) rfl (by decide) (by decide) (Nat.le_of_ble_eq_true rfl) (Nat.le_of_ble_eq_true rfl) rfl ?_
  have hF52 : am_FR _ _ 55 := fr_52 hF51
  refine am_aastK (t := 3) (j := 4) hE (am_dec tmX1_init_1 23 rfl) sh_19 (by decide) (by decide) rfl sh_52 (by decide) cf9 (by decide) (by decide) (by decide) ?_
  have hF53 : am_FR _ _ 55 := am_FR_R (a := 19) (j := 4) (v := some 52) hF52 (Nat.le_of_ble_eq_true rfl)
  refine am_iinc (v := (1 : Int32)) (lv' := [(0, .ref 17), (1, .int (5 : Int32))]) (am_dec tmX1_init_1 24 rfl) rfl (by decide) (by decide) rfl ?_
  refine am_goto (tgt := 133) (am_dec tmX1_init_1 25 rfl) (by decide) ?_
  refine am_iload_n (am_dec tmX1_init_1 14 rfl) rfl rfl ?_
  refine am_iconst (v := (5 : Int32)) (am_dec tmX1_init_1 15 rfl) (by decide) ?_
  refine am_icmp_ge (tgt := 157) (am_dec tmX1_init_1 16 rfl) (by decide) (fun _ => ?_) (fun h => absurd (by decide) h)
  refine am_iconst (v := (0 : Int32)) (am_dec tmX1_init_1 26 rfl) (by decide) ?_
  refine am_istore_n (lv' := [(0, .ref 17), (1, .int (0 : Int32))]) (am_dec tmX1_init_1 27 rfl) rfl (by decide) rfl ?_
  refine am_iload_n (am_dec tmX1_init_1 28 rfl) rfl rfl ?_
  refine am_iconst (v := (4 : Int32)) (am_dec tmX1_init_1 29 rfl) (by decide) ?_
  refine am_icmp_ge (tgt := 183) (am_dec tmX1_init_1 30 rfl) (by decide) (fun h => absurd h (by decide)) (fun _ => ?_)
  refine am_aload_n (am_dec tmX1_init_1 31 rfl) rfl rfl ?_
  refine am_getRK (r := 20) (j := 2) hE (am_dec tmX1_init_1 32 rfl) sh_17 (by decide) cf1 (by decide) rfl lf_X1_25 rfl ?_
  refine am_iload_n (am_dec tmX1_init_1 33 rfl) rfl rfl ?_
  refine am_newK hE (am_dec tmX1_init_1 34 rfl) cf5 lck_X1_23 lk_ins_X5 lk_ini_X5 sh_55 hF53 dv_X5 (Nat.le_of_ble_eq_true rfl) (Nat.le_of_ble_eq_true rfl) ?_
  have hF54 : am_FR _ _ 56 := am_FR_le hF53 (Nat.le_of_ble_eq_true rfl)
  refine am_dup (am_dec tmX1_init_1 35 rfl) rfl ?_
  refine am_callI (As := []) (st := [.ref 55, .int (0 : Int32), .ref 20]) (am_dec tmX1_init_1 36 rfl) ok_X5_init rfl rfl rfl lm_X1_36 in_X5_init (ci_55 hE hA hF54) rfl (by decide) (by decide) (Nat.le_of_ble_eq_true rfl) (Nat.le_of_ble_eq_true rfl) rfl ?_
  have hF55 : am_FR _ _ 56 := fr_55 hF54
  refine am_aastK (t := 4) (j := 0) hE (am_dec tmX1_init_1 37 rfl) sh_20 (by decide) (by decide) rfl sh_55 (by decide) cf5 (by decide) (by decide) (by decide) ?_
  have hF56 : am_FR _ _ 56 := am_FR_R (a := 20) (j := 0) (v := some 55) hF55 (Nat.le_of_ble_eq_true rfl)
  refine am_iinc (v := (1 : Int32)) (lv' := [(0, .ref 17), (1, .int (1 : Int32))]) (am_dec tmX1_init_1 38 rfl) rfl (by decide) (by decide) rfl ?_
  refine am_goto (tgt := 159) (am_dec tmX1_init_1 39 rfl) (by decide) ?_
  refine am_iload_n (am_dec tmX1_init_1 28 rfl) rfl rfl ?_
  refine am_iconst (v := (4 : Int32)) (am_dec tmX1_init_1 29 rfl) (by decide) ?_
  refine am_icmp_ge (tgt := 183) (am_dec tmX1_init_1 30 rfl) (by decide) (fun h => absurd h (by decide)) (fun _ => ?_)
  refine am_aload_n (am_dec tmX1_init_1 31 rfl) rfl rfl ?_
  refine am_getRK (r := 20) (j := 2) hE (am_dec tmX1_init_1 32 rfl) sh_17 (by decide) cf1 (by decide) rfl lf_X1_25 rfl ?_
  refine am_iload_n (am_dec tmX1_init_1 33 rfl) rfl rfl ?_
  refine am_newK hE (am_dec tmX1_init_1 34 rfl) cf5 lck_X1_23 lk_ins_X5 lk_ini_X5 sh_56 hF56 dv_X5 (Nat.le_of_ble_eq_true rfl) (Nat.le_of_ble_eq_true rfl) ?_
  have hF57 : am_FR _ _ 57 := am_FR_le hF56 (Nat.le_of_ble_eq_true rfl)
  refine am_dup (am_dec tmX1_init_1 35 rfl) rfl ?_
  refine am_callI (As := []) (st := [.ref 56, .int (1 : Int32), .ref 20]) (am_dec tmX1_init_1 36 rfl) ok_X5_init rfl rfl rfl lm_X1_36 in_X5_init (ci_56 hE hA hF57) rfl (by decide) (by decide) (Nat.le_of_ble_eq_true rfl) (Nat.le_of_ble_eq_true rfl) rfl ?_
  have hF58 : am_FR _ _ 57 := fr_56 hF57
  refine am_aastK (t := 4) (j := 1) hE (am_dec tmX1_init_1 37 rfl) sh_20 (by decide) (by decide) rfl sh_56 (by decide) cf5 (by decide) (by decide) (by decide) ?_
  have hF59 : am_FR _ _ 57 := am_FR_R (a := 20) (j := 1) (v := some 56) hF58 (Nat.le_of_ble_eq_true rfl)
  refine am_iinc (v := (1 : Int32)) (lv' := [(0, .ref 17), (1, .int (2 : Int32))]) (am_dec tmX1_init_1 38 rfl) rfl (by decide) (by decide) rfl ?_
  refine am_goto (tgt := 159) (am_dec tmX1_init_1 39 rfl) (by decide) ?_
  refine am_iload_n (am_dec tmX1_init_1 28 rfl) rfl rfl ?_
  refine am_iconst (v := (4 : Int32)) (am_dec tmX1_init_1 29 rfl) (by decide) ?_
  refine am_icmp_ge (tgt := 183) (am_dec tmX1_init_1 30 rfl) (by decide) (fun h => absurd h (by decide)) (fun _ => ?_)
  refine am_aload_n (am_dec tmX1_init_1 31 rfl) rfl rfl ?_
  refine am_getRK (r := 20) (j := 2) hE (am_dec tmX1_init_1 32 rfl) sh_17 (by decide) cf1 (by decide) rfl lf_X1_25 rfl ?_
  refine am_iload_n (am_dec tmX1_init_1 33 rfl) rfl rfl ?_
  refine am_newK hE (am_dec tmX1_init_1 34 rfl) cf5 lck_X1_23 lk_ins_X5 lk_ini_X5 sh_57 hF59 dv_X5 (Nat.le_of_ble_eq_true rfl) (Nat.le_of_ble_eq_true rfl) ?_
  have hF60 : am_FR _ _ 58 := am_FR_le hF59 (Nat.le_of_ble_eq_true rfl)
  refine am_dup (am_dec tmX1_init_1 35 rfl) rfl ?_
  refine am_callI (As := []) (st := [.ref 57, .int (2 : Int32), .ref 20]) (am_dec tmX1_init_1 36 rfl) ok_X5_init rfl rfl rfl lm_X1_36 in_X5_init (ci_57 hE hA hF60) rfl (by decide) (by decide) (Nat.le_of_ble_eq_true rfl) (Nat.le_of_ble_eq_true rfl) rfl ?_
  have hF61 : am_FR _ _ 58 := fr_57 hF60
  refine am_aastK (t := 4) (j := 2) hE (am_dec tmX1_init_1 37 rfl) sh_20 (by decide) (by decide) rfl sh_57 (by decide) cf5 (by decide) (by decide) (by decide) ?_
  have hF62 : am_FR _ _ 58 := am_FR_R (a := 20) (j := 2) (v := some 57) hF61 (Nat.le_of_ble_eq_true rfl)
  refine am_iinc (v := (1 : Int32)) (lv' := [(0, .ref 17), (1, .int (3 : Int32))]) (am_dec tmX1_init_1 38 rfl) rfl (by decide) (by decide) rfl ?_
  refine am_goto (tgt := 159) (am_dec tmX1_init_1 39 rfl) (by decide) ?_
  refine am_iload_n (am_dec tmX1_init_1 28 rfl) rfl rfl ?_
  refine am_iconst (v := (4 : Int32)) (am_dec tmX1_init_1 29 rfl) (by decide) ?_
  refine am_icmp_ge (tgt := 183) (am_dec tmX1_init_1 30 rfl) (by decide) (fun h => absurd h (by decide)) (fun _ => ?_)
  refine am_aload_n (am_dec tmX1_init_1 31 rfl) rfl rfl ?_
  refine am_getRK (r := 20) (j := 2) hE (am_dec tmX1_init_1 32 rfl) sh_17 (by decide) cf1 (by decide) rfl lf_X1_25 rfl ?_
  refine am_iload_n (am_dec tmX1_init_1 33 rfl) rfl rfl ?_
  refine am_newK hE (am_dec tmX1_init_1 34 rfl) cf5 lck_X1_23 lk_ins_X5 lk_ini_X5 sh_58 hF62 dv_X5 (Nat.le_of_ble_eq_true rfl) (Nat.le_of_ble_eq_true rfl) ?_
  have hF63 : am_FR _ _ 59 := am_FR_le hF62 (Nat.le_of_ble_eq_true rfl)
  refine am_dup (am_dec tmX1_init_1 35 rfl) rfl ?_
  refine am_callI (As := []) (st := [.ref 58, .int (3 : Int32), .ref 20]) (am_dec tmX1_init_1 36 rfl) ok_X5_init rfl rfl rfl lm_X1_36 in_X5_init (ci_58 hE hA hF63) rfl (by decide) (by decide) (Nat.le_of_ble_eq_true rfl) (Nat.le_of_ble_eq_true rfl) rfl ?_
  have hF64 : am_FR _ _ 59 := fr_58 hF63
  refine am_aastK (t := 4) (j := 3) hE (am_dec tmX1_init_1 37 rfl) sh_20 (by decide) (by decide) rfl sh_58 (by decide) cf5 (by decide) (by decide) (by decide) ?_
  have hF65 : am_FR _ _ 59 := am_FR_R (a := 20) (j := 3) (v := some 58) hF64 (Nat.le_of_ble_eq_true rfl)
  refine am_iinc (v := (1 : Int32)) (lv' := [(0, .ref 17), (1, .int (4 : Int32))]) (am_dec tmX1_init_1 38 rfl) rfl (by decide) (by decide) rfl ?_
  refine am_goto (tgt := 159) (am_dec tmX1_init_1 39 rfl) (by decide) ?_
  refine am_iload_n (am_dec tmX1_init_1 28 rfl) rfl rfl ?_
  refine am_iconst (v := (4 : Int32)) (am_dec tmX1_init_1 29 rfl) (by decide) ?_
  refine am_icmp_ge (tgt := 183) (am_dec tmX1_init_1 30 rfl) (by decide) (fun _ => ?_) (fun h => absurd (by decide) h)
  exact am_vret (am_dec tmX1_init_1 40 rfl) rfl (Nat.le_of_ble_eq_true rfl) (Nat.le_of_ble_eq_true rfl)
def vc_61 (V : Nat → Nat → Option Nat) : Nat → Nat → Option Nat := V
def dc_61 (D : am_D) : am_D := am_wI (am_wI (am_wI (D) 61 0 (16 : Int32)) 61 1 (4 : Int32)) 61 2 (3 : Int32)
theorem fr_61 {V : Nat → Nat → Option Nat} {D : am_D} (hF0 : am_FR V D 62) : am_FR (vc_61 V) (dc_61 D) 62 := by
  have hF1 : am_FR _ _ 62 := am_FR_I (a := 61) (j := 0) (v := (16 : Int32)) hF0 (Nat.le_of_ble_eq_true rfl)
  have hF2 : am_FR _ _ 62 := am_FR_I (a := 61) (j := 1) (v := (4 : Int32)) hF1 (Nat.le_of_ble_eq_true rfl)
  have hF3 : am_FR _ _ 62 := am_FR_I (a := 61) (j := 2) (v := (3 : Int32)) hF2 (Nat.le_of_ble_eq_true rfl)
  exact hF3
set_option maxRecDepth 100000 in
set_option maxHeartbeats 4000000 in
theorem ci_61 {E : am_E} (hE : am_EH E) (hA : am_AO E) {V : Nat → Nat → Option Nat} {D : am_D} (hF0 : am_FR V D 62) : am_C E mX5_init 1 0 0 [.ref 61] (am_Gk V 62) D (.inl none) (am_Gk (vc_61 V) 62) (dc_61 D) := by
  refine am_C_of (by decide +kernel) (Nat.le_of_ble_eq_true rfl) ?_
  change am_S E mX5_init 1 0 0 (.inl none) (am_Gk (vc_61 V) 62) (dc_61 D) 0 0 0 [(0, .ref 61)] [] (am_Gk V 62) D
  refine am_aload_n (am_dec tmX5_init 0 rfl) rfl rfl ?_
  refine am_objInit (am_dec tmX5_init 1 rfl) lmo_X5_1 lk_obi lk_obc (by decide) ?_
  refine am_aload_n (am_dec tmX5_init 2 rfl) rfl rfl ?_
  refine am_bipush (v := (16 : Int32)) (am_dec tmX5_init 3 rfl) (by decide) ?_
  refine am_putIK (j := 0) hE (am_dec tmX5_init 4 rfl) sh_61 (by decide) cf5 (by decide) rfl lf_X5_7 (Or.inr ⟨rfl, rfl⟩) rfl rfl ?_
  have hF1 : am_FR _ _ 62 := am_FR_I (a := 61) (j := 0) (v := (16 : Int32)) hF0 (Nat.le_of_ble_eq_true rfl)
  refine am_aload_n (am_dec tmX5_init 5 rfl) rfl rfl ?_
  refine am_iconst (v := (4 : Int32)) (am_dec tmX5_init 6 rfl) (by decide) ?_
  refine am_putIK (j := 1) hE (am_dec tmX5_init 7 rfl) sh_61 (by decide) cf5 (by decide) rfl lf_X5_13 (Or.inr ⟨rfl, rfl⟩) rfl rfl ?_
  have hF2 : am_FR _ _ 62 := am_FR_I (a := 61) (j := 1) (v := (4 : Int32)) hF1 (Nat.le_of_ble_eq_true rfl)
  refine am_aload_n (am_dec tmX5_init 8 rfl) rfl rfl ?_
  refine am_iconst (v := (3 : Int32)) (am_dec tmX5_init 9 rfl) (by decide) ?_
  refine am_putIK (j := 2) hE (am_dec tmX5_init 10 rfl) sh_61 (by decide) cf5 (by decide) rfl lf_X5_16 (Or.inr ⟨rfl, rfl⟩) rfl rfl ?_
  have hF3 : am_FR _ _ 62 := am_FR_I (a := 61) (j := 2) (v := (3 : Int32)) hF2 (Nat.le_of_ble_eq_true rfl)
  exact am_vret (am_dec tmX5_init 11 rfl) rfl (Nat.le_of_ble_eq_true rfl) (Nat.le_of_ble_eq_true rfl)
def vc_60 (V : Nat → Nat → Option Nat) : Nat → Nat → Option Nat := am_up2 (am_up2 (vc_61 (V)) 60 0 (some 61)) 60 1 (some 62)
def dc_60 (D : am_D) : am_D := dc_61 (D)
theorem fr_60 {V : Nat → Nat → Option Nat} {D : am_D} (hF0 : am_FR V D 61) : am_FR (vc_60 V) (dc_60 D) 63 := by
  have hF1 : am_FR _ _ 62 := am_FR_le hF0 (Nat.le_of_ble_eq_true rfl)
  have hF2 : am_FR _ _ 62 := fr_61 hF1
  have hF3 : am_FR _ _ 62 := am_FR_R (a := 60) (j := 0) (v := some 61) hF2 (Nat.le_of_ble_eq_true rfl)
  have hF4 : am_FR _ _ 63 := am_FR_le hF3 (Nat.le_of_ble_eq_true rfl)
  have hF5 : am_FR _ _ 63 := am_FR_R (a := 60) (j := 1) (v := some 62) hF4 (Nat.le_of_ble_eq_true rfl)
  exact hF5
set_option maxRecDepth 100000 in
set_option maxHeartbeats 4000000 in
theorem ci_60 {E : am_E} (hE : am_EH E) (hA : am_AO E) {V : Nat → Nat → Option Nat} {D : am_D} (hF0 : am_FR V D 61) : am_C E mX4_init 2 2 7 [.ref 60] (am_Gk V 61) D (.inl none) (am_Gk (vc_60 V) 63) (dc_60 D) := by
  refine am_C_of (by decide +kernel) (Nat.le_of_ble_eq_true rfl) ?_
  change am_S E mX4_init 2 2 7 (.inl none) (am_Gk (vc_60 V) 63) (dc_60 D) 0 0 0 [(0, .ref 60)] [] (am_Gk V 61) D
  refine am_aload_n (am_dec tmX4_init 0 rfl) rfl rfl ?_
  refine am_objInit (am_dec tmX4_init 1 rfl) lmo_X4_1 lk_obi lk_obc (by decide) ?_
  refine am_aload_n (am_dec tmX4_init 2 rfl) rfl rfl ?_
  refine am_newK hE (am_dec tmX4_init 3 rfl) cf5 lck_X4_7 lk_ins_X5 lk_ini_X5 sh_61 hF0 dv_X5 (Nat.le_of_ble_eq_true rfl) (Nat.le_of_ble_eq_true rfl) ?_
  have hF1 : am_FR _ _ 62 := am_FR_le hF0 (Nat.le_of_ble_eq_true rfl)
  refine am_dup (am_dec tmX4_init 4 rfl) rfl ?_
  refine am_callI (As := []) (st := [.ref 61, .ref 60]) (am_dec tmX4_init 5 rfl) ok_X5_init rfl rfl rfl lm_X4_9 in_X5_init (ci_61 hE hA hF1) rfl (by decide) (by decide) (Nat.le_of_ble_eq_true rfl) (Nat.le_of_ble_eq_true rfl) rfl ?_
  have hF2 : am_FR _ _ 62 := fr_61 hF1
  refine am_putRK (j := 0) hE (am_dec tmX4_init 6 rfl) sh_60 (by decide) cf4 (by decide) rfl lf_X4_10 (Or.inr ⟨rfl, rfl⟩) (fun _ => rfl) (fun _ => rfl) ?_
  have hF3 : am_FR _ _ 62 := am_FR_R (a := 60) (j := 0) (v := some 61) hF2 (Nat.le_of_ble_eq_true rfl)
  refine am_aload_n (am_dec tmX4_init 7 rfl) rfl rfl ?_
  refine am_iconst (v := (4 : Int32)) (am_dec tmX4_init 8 rfl) (by decide) ?_
  refine am_newarrK (t := 0) (N := 4) hE (am_dec tmX4_init 9 rfl) rfl (Or.inl ⟨rfl, rfl⟩) lk_ai (by decide) (by decide) sh_62 hF3 (Nat.le_of_ble_eq_true rfl) (Nat.le_of_ble_eq_true rfl) ?_
  have hF4 : am_FR _ _ 63 := am_FR_le hF3 (Nat.le_of_ble_eq_true rfl)
  refine am_putRK (j := 1) hE (am_dec tmX4_init 10 rfl) sh_60 (by decide) cf4 (by decide) rfl lf_X4_16 (Or.inr ⟨rfl, rfl⟩) (fun _ => rfl) (fun _ => rfl) ?_
  have hF5 : am_FR _ _ 63 := am_FR_R (a := 60) (j := 1) (v := some 62) hF4 (Nat.le_of_ble_eq_true rfl)
  exact am_vret (am_dec tmX4_init 11 rfl) rfl (Nat.le_of_ble_eq_true rfl) (Nat.le_of_ble_eq_true rfl)
def vc_64 (V : Nat → Nat → Option Nat) : Nat → Nat → Option Nat := V
def dc_64 (D : am_D) : am_D := am_wI (am_wI (am_wI (D) 64 0 (16 : Int32)) 64 1 (4 : Int32)) 64 2 (3 : Int32)
theorem fr_64 {V : Nat → Nat → Option Nat} {D : am_D} (hF0 : am_FR V D 65) : am_FR (vc_64 V) (dc_64 D) 65 := by
  have hF1 : am_FR _ _ 65 := am_FR_I (a := 64) (j := 0) (v := (16 : Int32)) hF0 (Nat.le_of_ble_eq_true rfl)
  have hF2 : am_FR _ _ 65 := am_FR_I (a := 64) (j := 1) (v := (4 : Int32)) hF1 (Nat.le_of_ble_eq_true rfl)
  have hF3 : am_FR _ _ 65 := am_FR_I (a := 64) (j := 2) (v := (3 : Int32)) hF2 (Nat.le_of_ble_eq_true rfl)
  exact hF3
set_option maxRecDepth 100000 in
set_option maxHeartbeats 4000000 in
theorem ci_64 {E : am_E} (hE : am_EH E) (hA : am_AO E) {V : Nat → Nat → Option Nat} {D : am_D} (hF0 : am_FR V D 65) : am_C E mX5_init 1 0 0 [.ref 64] (am_Gk V 65) D (.inl none) (am_Gk (vc_64 V) 65) (dc_64 D) := by
  refine am_C_of (by decide +kernel) (Nat.le_of_ble_eq_true rfl) ?_
  change am_S E mX5_init 1 0 0 (.inl none) (am_Gk (vc_64 V) 65) (dc_64 D) 0 0 0 [(0, .ref 64)] [] (am_Gk V 65) D
  refine am_aload_n (am_dec tmX5_init 0 rfl) rfl rfl ?_
  refine am_objInit (am_dec tmX5_init 1 rfl) lmo_X5_1 lk_obi lk_obc (by decide) ?_
  refine am_aload_n (am_dec tmX5_init 2 rfl) rfl rfl ?_
  refine am_bipush (v := (16 : Int32)) (am_dec tmX5_init 3 rfl) (by decide) ?_
  refine am_putIK (j := 0) hE (am_dec tmX5_init 4 rfl) sh_64 (by decide) cf5 (by decide) rfl lf_X5_7 (Or.inr ⟨rfl, rfl⟩) rfl rfl ?_
  have hF1 : am_FR _ _ 65 := am_FR_I (a := 64) (j := 0) (v := (16 : Int32)) hF0 (Nat.le_of_ble_eq_true rfl)
  refine am_aload_n (am_dec tmX5_init 5 rfl) rfl rfl ?_
  refine am_iconst (v := (4 : Int32)) (am_dec tmX5_init 6 rfl) (by decide) ?_
  refine am_putIK (j := 1) hE (am_dec tmX5_init 7 rfl) sh_64 (by decide) cf5 (by decide) rfl lf_X5_13 (Or.inr ⟨rfl, rfl⟩) rfl rfl ?_
  have hF2 : am_FR _ _ 65 := am_FR_I (a := 64) (j := 1) (v := (4 : Int32)) hF1 (Nat.le_of_ble_eq_true rfl)
  refine am_aload_n (am_dec tmX5_init 8 rfl) rfl rfl ?_
  refine am_iconst (v := (3 : Int32)) (am_dec tmX5_init 9 rfl) (by decide) ?_
  refine am_putIK (j := 2) hE (am_dec tmX5_init 10 rfl) sh_64 (by decide) cf5 (by decide) rfl lf_X5_16 (Or.inr ⟨rfl, rfl⟩) rfl rfl ?_
  have hF3 : am_FR _ _ 65 := am_FR_I (a := 64) (j := 2) (v := (3 : Int32)) hF2 (Nat.le_of_ble_eq_true rfl)
  exact am_vret (am_dec tmX5_init 11 rfl) rfl (Nat.le_of_ble_eq_true rfl) (Nat.le_of_ble_eq_true rfl)
def vc_63 (V : Nat → Nat → Option Nat) : Nat → Nat → Option Nat := am_up2 (am_up2 (vc_64 (V)) 63 0 (some 64)) 63 1 (some 65)
def dc_63 (D : am_D) : am_D := dc_64 (D)
theorem fr_63 {V : Nat → Nat → Option Nat} {D : am_D} (hF0 : am_FR V D 64) : am_FR (vc_63 V) (dc_63 D) 66 := by
  have hF1 : am_FR _ _ 65 := am_FR_le hF0 (Nat.le_of_ble_eq_true rfl)
  have hF2 : am_FR _ _ 65 := fr_64 hF1
  have hF3 : am_FR _ _ 65 := am_FR_R (a := 63) (j := 0) (v := some 64) hF2 (Nat.le_of_ble_eq_true rfl)
  have hF4 : am_FR _ _ 66 := am_FR_le hF3 (Nat.le_of_ble_eq_true rfl)
  have hF5 : am_FR _ _ 66 := am_FR_R (a := 63) (j := 1) (v := some 65) hF4 (Nat.le_of_ble_eq_true rfl)
  exact hF5
set_option maxRecDepth 100000 in
set_option maxHeartbeats 4000000 in
theorem ci_63 {E : am_E} (hE : am_EH E) (hA : am_AO E) {V : Nat → Nat → Option Nat} {D : am_D} (hF0 : am_FR V D 64) : am_C E mX4_init 2 2 7 [.ref 63] (am_Gk V 64) D (.inl none) (am_Gk (vc_63 V) 66) (dc_63 D) := by
  refine am_C_of (by decide +kernel) (Nat.le_of_ble_eq_true rfl) ?_
  change am_S E mX4_init 2 2 7 (.inl none) (am_Gk (vc_63 V) 66) (dc_63 D) 0 0 0 [(0, .ref 63)] [] (am_Gk V 64) D
  refine am_aload_n (am_dec tmX4_init 0 rfl) rfl rfl ?_
  refine am_objInit (am_dec tmX4_init 1 rfl) lmo_X4_1 lk_obi lk_obc (by decide) ?_
  refine am_aload_n (am_dec tmX4_init 2 rfl) rfl rfl ?_
  refine am_newK hE (am_dec tmX4_init 3 rfl) cf5 lck_X4_7 lk_ins_X5 lk_ini_X5 sh_64 hF0 dv_X5 (Nat.le_of_ble_eq_true rfl) (Nat.le_of_ble_eq_true rfl) ?_
  have hF1 : am_FR _ _ 65 := am_FR_le hF0 (Nat.le_of_ble_eq_true rfl)
  refine am_dup (am_dec tmX4_init 4 rfl) rfl ?_
  refine am_callI (As := []) (st := [.ref 64, .ref 63]) (am_dec tmX4_init 5 rfl) ok_X5_init rfl rfl rfl lm_X4_9 in_X5_init (ci_64 hE hA hF1) rfl (by decide) (by decide) (Nat.le_of_ble_eq_true rfl) (Nat.le_of_ble_eq_true rfl) rfl ?_
  have hF2 : am_FR _ _ 65 := fr_64 hF1
  refine am_putRK (j := 0) hE (am_dec tmX4_init 6 rfl) sh_63 (by decide) cf4 (by decide) rfl lf_X4_10 (Or.inr ⟨rfl, rfl⟩) (fun _ => rfl) (fun _ => rfl) ?_
  have hF3 : am_FR _ _ 65 := am_FR_R (a := 63) (j := 0) (v := some 64) hF2 (Nat.le_of_ble_eq_true rfl)
  refine am_aload_n (am_dec tmX4_init 7 rfl) rfl rfl ?_
  refine am_iconst (v := (4 : Int32)) (am_dec tmX4_init 8 rfl) (by decide) ?_
  refine am_newarrK (t := 0) (N := 4) hE (am_dec tmX4_init 9 rfl) rfl (Or.inl ⟨rfl, rfl⟩) lk_ai (by decide) (by decide) sh_65 hF3 (Nat.le_of_ble_eq_true rfl) (Nat.le_of_ble_eq_true rfl) ?_
  have hF4 : am_FR _ _ 66 := am_FR_le hF3 (Nat.le_of_ble_eq_true rfl)
  refine am_putRK (j := 1) hE (am_dec tmX4_init 10 rfl) sh_63 (by decide) cf4 (by decide) rfl lf_X4_16 (Or.inr ⟨rfl, rfl⟩) (fun _ => rfl) (fun _ => rfl) ?_
  have hF5 : am_FR _ _ 66 := am_FR_R (a := 63) (j := 1) (v := some 65) hF4 (Nat.le_of_ble_eq_true rfl)
  exact am_vret (am_dec tmX4_init 11 rfl) rfl (Nat.le_of_ble_eq_true rfl) (Nat.le_of_ble_eq_true rfl)
def vc_67 (V : Nat → Nat → Option Nat) : Nat → Nat → Option Nat := V
def dc_67 (D : am_D) : am_D := am_wI (am_wI (am_wI (D) 67 0 (16 : Int32)) 67 1 (4 : Int32)) 67 2 (3 : Int32)
theorem fr_67 {V : Nat → Nat → Option Nat} {D : am_D} (hF0 : am_FR V D 68) : am_FR (vc_67 V) (dc_67 D) 68 := by
  have hF1 : am_FR _ _ 68 := am_FR_I (a := 67) (j := 0) (v := (16 : Int32)) hF0 (Nat.le_of_ble_eq_true rfl)
  have hF2 : am_FR _ _ 68 := am_FR_I (a := 67) (j := 1) (v := (4 : Int32)) hF1 (Nat.le_of_ble_eq_true rfl)
  have hF3 : am_FR _ _ 68 := am_FR_I (a := 67) (j := 2) (v := (3 : Int32)) hF2 (Nat.le_of_ble_eq_true rfl)
  exact hF3
set_option maxRecDepth 100000 in
set_option maxHeartbeats 4000000 in
theorem ci_67 {E : am_E} (hE : am_EH E) (hA : am_AO E) {V : Nat → Nat → Option Nat} {D : am_D} (hF0 : am_FR V D 68) : am_C E mX5_init 1 0 0 [.ref 67] (am_Gk V 68) D (.inl none) (am_Gk (vc_67 V) 68) (dc_67 D) := by
  refine am_C_of (by decide +kernel) (Nat.le_of_ble_eq_true rfl) ?_
  change am_S E mX5_init 1 0 0 (.inl none) (am_Gk (vc_67 V) 68) (dc_67 D) 0 0 0 [(0, .ref 67)] [] (am_Gk V 68) D
  refine am_aload_n (am_dec tmX5_init 0 rfl) rfl rfl ?_
  refine am_objInit (am_dec tmX5_init 1 rfl) lmo_X5_1 lk_obi lk_obc (by decide) ?_
  refine am_aload_n (am_dec tmX5_init 2 rfl) rfl rfl ?_
  refine am_bipush (v := (16 : Int32)) (am_dec tmX5_init 3 rfl) (by decide) ?_
  refine am_putIK (j := 0) hE (am_dec tmX5_init 4 rfl) sh_67 (by decide) cf5 (by decide) rfl lf_X5_7 (Or.inr ⟨rfl, rfl⟩) rfl rfl ?_
  have hF1 : am_FR _ _ 68 := am_FR_I (a := 67) (j := 0) (v := (16 : Int32)) hF0 (Nat.le_of_ble_eq_true rfl)
  refine am_aload_n (am_dec tmX5_init 5 rfl) rfl rfl ?_
  refine am_iconst (v := (4 : Int32)) (am_dec tmX5_init 6 rfl) (by decide) ?_
  refine am_putIK (j := 1) hE (am_dec tmX5_init 7 rfl) sh_67 (by decide) cf5 (by decide) rfl lf_X5_13 (Or.inr ⟨rfl, rfl⟩) rfl rfl ?_
  have hF2 : am_FR _ _ 68 := am_FR_I (a := 67) (j := 1) (v := (4 : Int32)) hF1 (Nat.le_of_ble_eq_true rfl)
  refine am_aload_n (am_dec tmX5_init 8 rfl) rfl rfl ?_
  refine am_iconst (v := (3 : Int32)) (am_dec tmX5_init 9 rfl) (by decide) ?_
  refine am_putIK (j := 2) hE (am_dec tmX5_init 10 rfl) sh_67 (by decide) cf5 (by decide) rfl lf_X5_16 (Or.inr ⟨rfl, rfl⟩) rfl rfl ?_
  have hF3 : am_FR _ _ 68 := am_FR_I (a := 67) (j := 2) (v := (3 : Int32)) hF2 (Nat.le_of_ble_eq_true rfl)
  exact am_vret (am_dec tmX5_init 11 rfl) rfl (Nat.le_of_ble_eq_true rfl) (Nat.le_of_ble_eq_true rfl)
def vc_66 (V : Nat → Nat → Option Nat) : Nat → Nat → Option Nat := am_up2 (am_up2 (vc_67 (V)) 66 0 (some 67)) 66 1 (some 68)
def dc_66 (D : am_D) : am_D := dc_67 (D)
theorem fr_66 {V : Nat → Nat → Option Nat} {D : am_D} (hF0 : am_FR V D 67) : am_FR (vc_66 V) (dc_66 D) 69 := by
  have hF1 : am_FR _ _ 68 := am_FR_le hF0 (Nat.le_of_ble_eq_true rfl)
  have hF2 : am_FR _ _ 68 := fr_67 hF1
  have hF3 : am_FR _ _ 68 := am_FR_R (a := 66) (j := 0) (v := some 67) hF2 (Nat.le_of_ble_eq_true rfl)
  have hF4 : am_FR _ _ 69 := am_FR_le hF3 (Nat.le_of_ble_eq_true rfl)
  have hF5 : am_FR _ _ 69 := am_FR_R (a := 66) (j := 1) (v := some 68) hF4 (Nat.le_of_ble_eq_true rfl)
  exact hF5
set_option maxRecDepth 100000 in
set_option maxHeartbeats 4000000 in
theorem ci_66 {E : am_E} (hE : am_EH E) (hA : am_AO E) {V : Nat → Nat → Option Nat} {D : am_D} (hF0 : am_FR V D 67) : am_C E mX4_init 2 2 7 [.ref 66] (am_Gk V 67) D (.inl none) (am_Gk (vc_66 V) 69) (dc_66 D) := by
  refine am_C_of (by decide +kernel) (Nat.le_of_ble_eq_true rfl) ?_
  change am_S E mX4_init 2 2 7 (.inl none) (am_Gk (vc_66 V) 69) (dc_66 D) 0 0 0 [(0, .ref 66)] [] (am_Gk V 67) D
  refine am_aload_n (am_dec tmX4_init 0 rfl) rfl rfl ?_
  refine am_objInit (am_dec tmX4_init 1 rfl) lmo_X4_1 lk_obi lk_obc (by decide) ?_
  refine am_aload_n (am_dec tmX4_init 2 rfl) rfl rfl ?_
  refine am_newK hE (am_dec tmX4_init 3 rfl) cf5 lck_X4_7 lk_ins_X5 lk_ini_X5 sh_67 hF0 dv_X5 (Nat.le_of_ble_eq_true rfl) (Nat.le_of_ble_eq_true rfl) ?_
  have hF1 : am_FR _ _ 68 := am_FR_le hF0 (Nat.le_of_ble_eq_true rfl)
  refine am_dup (am_dec tmX4_init 4 rfl) rfl ?_
  refine am_callI (As := []) (st := [.ref 67, .ref 66]) (am_dec tmX4_init 5 rfl) ok_X5_init rfl rfl rfl lm_X4_9 in_X5_init (ci_67 hE hA hF1) rfl (by decide) (by decide) (Nat.le_of_ble_eq_true rfl) (Nat.le_of_ble_eq_true rfl) rfl ?_
  have hF2 : am_FR _ _ 68 := fr_67 hF1
  refine am_putRK (j := 0) hE (am_dec tmX4_init 6 rfl) sh_66 (by decide) cf4 (by decide) rfl lf_X4_10 (Or.inr ⟨rfl, rfl⟩) (fun _ => rfl) (fun _ => rfl) ?_
  have hF3 : am_FR _ _ 68 := am_FR_R (a := 66) (j := 0) (v := some 67) hF2 (Nat.le_of_ble_eq_true rfl)
  refine am_aload_n (am_dec tmX4_init 7 rfl) rfl rfl ?_
  refine am_iconst (v := (4 : Int32)) (am_dec tmX4_init 8 rfl) (by decide) ?_
  refine am_newarrK (t := 0) (N := 4) hE (am_dec tmX4_init 9 rfl) rfl (Or.inl ⟨rfl, rfl⟩) lk_ai (by decide) (by decide) sh_68 hF3 (Nat.le_of_ble_eq_true rfl) (Nat.le_of_ble_eq_true rfl) ?_
  have hF4 : am_FR _ _ 69 := am_FR_le hF3 (Nat.le_of_ble_eq_true rfl)
  refine am_putRK (j := 1) hE (am_dec tmX4_init 10 rfl) sh_66 (by decide) cf4 (by decide) rfl lf_X4_16 (Or.inr ⟨rfl, rfl⟩) (fun _ => rfl) (fun _ => rfl) ?_
  have hF5 : am_FR _ _ 69 := am_FR_R (a := 66) (j := 1) (v := some 68) hF4 (Nat.le_of_ble_eq_true rfl)
  exact am_vret (am_dec tmX4_init 11 rfl) rfl (Nat.le_of_ble_eq_true rfl) (Nat.le_of_ble_eq_true rfl)
def vc_69 (V : Nat → Nat → Option Nat) : Nat → Nat → Option Nat := am_up2 (V) 69 0 (some 70)
def dc_69 (D : am_D) : am_D := D
theorem fr_69 {V : Nat → Nat → Option Nat} {D : am_D} (hF0 : am_FR V D 70) : am_FR (vc_69 V) (dc_69 D) 71 := by
  have hF1 : am_FR _ _ 71 := am_FR_le hF0 (Nat.le_of_ble_eq_true rfl)
  have hF2 : am_FR _ _ 71 := am_FR_R (a := 69) (j := 0) (v := some 70) hF1 (Nat.le_of_ble_eq_true rfl)
  exact hF2
set_option maxRecDepth 100000 in
set_option maxHeartbeats 4000000 in
theorem ci_69 {E : am_E} (hE : am_EH E) (hA : am_AO E) {V : Nat → Nat → Option Nat} {D : am_D} (hF0 : am_FR V D 70) : am_C E mX8_init 1 1 300 [.ref 69] (am_Gk V 70) D (.inl none) (am_Gk (vc_69 V) 71) (dc_69 D) := by
  refine am_C_of (by decide +kernel) (Nat.le_of_ble_eq_true rfl) ?_
  change am_S E mX8_init 1 1 300 (.inl none) (am_Gk (vc_69 V) 71) (dc_69 D) 0 0 0 [(0, .ref 69)] [] (am_Gk V 70) D
  refine am_aload_n (am_dec tmX8_init 0 rfl) rfl rfl ?_
  refine am_objInit (am_dec tmX8_init 1 rfl) lmo_X8_3 lk_obi lk_obc (by decide) ?_
  refine am_aload_n (am_dec tmX8_init 2 rfl) rfl rfl ?_
  refine am_sipush (v := (300 : Int32)) (am_dec tmX8_init 3 rfl) (by decide) ?_
  refine am_newarrK (t := 0) (N := 300) hE (am_dec tmX8_init 4 rfl) rfl (Or.inl ⟨rfl, rfl⟩) lk_ai (by decide) (by decide) sh_70 hF0 (Nat.le_of_ble_eq_true rfl) (Nat.le_of_ble_eq_true rfl) ?_
  have hF1 : am_FR _ _ 71 := am_FR_le hF0 (Nat.le_of_ble_eq_true rfl)
  refine am_putRK (j := 0) hE (am_dec tmX8_init 5 rfl) sh_69 (by decide) cf8 (by decide) rfl lf_X8_11 (Or.inr ⟨rfl, rfl⟩) (fun _ => rfl) (fun _ => rfl) ?_
  have hF2 : am_FR _ _ 71 := am_FR_R (a := 69) (j := 0) (v := some 70) hF1 (Nat.le_of_ble_eq_true rfl)
  exact am_vret (am_dec tmX8_init 6 rfl) rfl (Nat.le_of_ble_eq_true rfl) (Nat.le_of_ble_eq_true rfl)
def vc_72 (V : Nat → Nat → Option Nat) : Nat → Nat → Option Nat := am_up2 (V) 72 0 (some 73)
def dc_72 (D : am_D) : am_D := D
theorem fr_72 {V : Nat → Nat → Option Nat} {D : am_D} (hF0 : am_FR V D 73) : am_FR (vc_72 V) (dc_72 D) 74 := by
  have hF1 : am_FR _ _ 74 := am_FR_le hF0 (Nat.le_of_ble_eq_true rfl)
  have hF2 : am_FR _ _ 74 := am_FR_R (a := 72) (j := 0) (v := some 73) hF1 (Nat.le_of_ble_eq_true rfl)
  exact hF2
set_option maxRecDepth 100000 in
set_option maxHeartbeats 4000000 in
theorem ci_72 {E : am_E} (hE : am_EH E) (hA : am_AO E) {V : Nat → Nat → Option Nat} {D : am_D} (hF0 : am_FR V D 73) : am_C E mX7_init 1 1 1200 [.ref 72, .int (1200 : Int32)] (am_Gk V 73) D (.inl none) (am_Gk (vc_72 V) 74) (dc_72 D) := by
  refine am_C_of (by decide +kernel) (Nat.le_of_ble_eq_true rfl) ?_
  change am_S E mX7_init 1 1 1200 (.inl none) (am_Gk (vc_72 V) 74) (dc_72 D) 0 0 0 [(0, .ref 72), (1, .int (1200 : Int32))] [] (am_Gk V 73) D
  refine am_aload_n (am_dec tmX7_init 0 rfl) rfl rfl ?_
  refine am_objInit (am_dec tmX7_init 1 rfl) lmo_X7_3 lk_obi lk_obc (by decide) ?_
  refine am_aload_n (am_dec tmX7_init 2 rfl) rfl rfl ?_
  refine am_iload_n (am_dec tmX7_init 3 rfl) rfl rfl ?_
  refine am_iconst (v := (0 : Int32)) (am_dec tmX7_init 4 rfl) (by decide) ?_
  refine am_mmax (am_dec tmX7_init 5 rfl) lmm_X7_9 wm_1 wm_9 wm_2 (by decide) (Nat.le_of_ble_eq_true rfl) (Nat.le_of_ble_eq_true rfl) ?_
  refine am_newarrK (t := 0) (N := 1200) hE (am_dec tmX7_init 6 rfl) rfl (Or.inl ⟨rfl, rfl⟩) lk_ai (by decide) (by decide) sh_73 hF0 (Nat.le_of_ble_eq_true rfl) (Nat.le_of_ble_eq_true rfl) ?_
  have hF1 : am_FR _ _ 74 := am_FR_le hF0 (Nat.le_of_ble_eq_true rfl)
  refine am_putRK (j := 0) hE (am_dec tmX7_init 7 rfl) sh_72 (by decide) cf7 (by decide) rfl lf_X7_15 (Or.inr ⟨rfl, rfl⟩) (fun _ => rfl) (fun _ => rfl) ?_
  have hF2 : am_FR _ _ 74 := am_FR_R (a := 72) (j := 0) (v := some 73) hF1 (Nat.le_of_ble_eq_true rfl)
  exact am_vret (am_dec tmX7_init 8 rfl) rfl (Nat.le_of_ble_eq_true rfl) (Nat.le_of_ble_eq_true rfl)
def vc_74 (V : Nat → Nat → Option Nat) : Nat → Nat → Option Nat := am_up2 (V) 74 0 (some 75)
def dc_74 (D : am_D) : am_D := D
theorem fr_74 {V : Nat → Nat → Option Nat} {D : am_D} (hF0 : am_FR V D 75) : am_FR (vc_74 V) (dc_74 D) 76 := by
  have hF1 : am_FR _ _ 76 := am_FR_le hF0 (Nat.le_of_ble_eq_true rfl)
  have hF2 : am_FR _ _ 76 := am_FR_R (a := 74) (j := 0) (v := some 75) hF1 (Nat.le_of_ble_eq_true rfl)
  exact hF2
set_option maxRecDepth 100000 in
set_option maxHeartbeats 4000000 in
theorem ci_74 {E : am_E} (hE : am_EH E) (hA : am_AO E) {V : Nat → Nat → Option Nat} {D : am_D} (hF0 : am_FR V D 75) : am_C E mX7_init 1 1 1200 [.ref 74, .int (1200 : Int32)] (am_Gk V 75) D (.inl none) (am_Gk (vc_74 V) 76) (dc_74 D) := by
  refine am_C_of (by decide +kernel) (Nat.le_of_ble_eq_true rfl) ?_
  change am_S E mX7_init 1 1 1200 (.inl none) (am_Gk (vc_74 V) 76) (dc_74 D) 0 0 0 [(0, .ref 74), (1, .int (1200 : Int32))] [] (am_Gk V 75) D
  refine am_aload_n (am_dec tmX7_init 0 rfl) rfl rfl ?_
  refine am_objInit (am_dec tmX7_init 1 rfl) lmo_X7_3 lk_obi lk_obc (by decide) ?_
  refine am_aload_n (am_dec tmX7_init 2 rfl) rfl rfl ?_
  refine am_iload_n (am_dec tmX7_init 3 rfl) rfl rfl ?_
  refine am_iconst (v := (0 : Int32)) (am_dec tmX7_init 4 rfl) (by decide) ?_
  refine am_mmax (am_dec tmX7_init 5 rfl) lmm_X7_9 wm_1 wm_9 wm_2 (by decide) (Nat.le_of_ble_eq_true rfl) (Nat.le_of_ble_eq_true rfl) ?_
  refine am_newarrK (t := 0) (N := 1200) hE (am_dec tmX7_init 6 rfl) rfl (Or.inl ⟨rfl, rfl⟩) lk_ai (by decide) (by decide) sh_75 hF0 (Nat.le_of_ble_eq_true rfl) (Nat.le_of_ble_eq_true rfl) ?_
  have hF1 : am_FR _ _ 76 := am_FR_le hF0 (Nat.le_of_ble_eq_true rfl)
  refine am_putRK (j := 0) hE (am_dec tmX7_init 7 rfl) sh_74 (by decide) cf7 (by decide) rfl lf_X7_15 (Or.inr ⟨rfl, rfl⟩) (fun _ => rfl) (fun _ => rfl) ?_
  have hF2 : am_FR _ _ 76 := am_FR_R (a := 74) (j := 0) (v := some 75) hF1 (Nat.le_of_ble_eq_true rfl)
  exact am_vret (am_dec tmX7_init 8 rfl) rfl (Nat.le_of_ble_eq_true rfl) (Nat.le_of_ble_eq_true rfl)
def vc_76 (V : Nat → Nat → Option Nat) : Nat → Nat → Option Nat := am_up2 (am_up2 (V) 76 0 (some 77)) 76 1 (some 78)
def dc_76 (D : am_D) : am_D := D
theorem fr_76 {V : Nat → Nat → Option Nat} {D : am_D} (hF0 : am_FR V D 77) : am_FR (vc_76 V) (dc_76 D) 79 := by
  have hF1 : am_FR _ _ 78 := am_FR_le hF0 (Nat.le_of_ble_eq_true rfl)
  have hF2 : am_FR _ _ 78 := am_FR_R (a := 76) (j := 0) (v := some 77) hF1 (Nat.le_of_ble_eq_true rfl)
  have hF3 : am_FR _ _ 79 := am_FR_le hF2 (Nat.le_of_ble_eq_true rfl)
  have hF4 : am_FR _ _ 79 := am_FR_R (a := 76) (j := 1) (v := some 78) hF3 (Nat.le_of_ble_eq_true rfl)
  exact hF4
set_option maxRecDepth 100000 in
set_option maxHeartbeats 4000000 in
theorem ci_76 {E : am_E} (hE : am_EH E) (hA : am_AO E) {V : Nat → Nat → Option Nat} {D : am_D} (hF0 : am_FR V D 77) : am_C E mX9_init 1 2 24 [.ref 76] (am_Gk V 77) D (.inl none) (am_Gk (vc_76 V) 79) (dc_76 D) := by
  refine am_C_of (by decide +kernel) (Nat.le_of_ble_eq_true rfl) ?_
  change am_S E mX9_init 1 2 24 (.inl none) (am_Gk (vc_76 V) 79) (dc_76 D) 0 0 0 [(0, .ref 76)] [] (am_Gk V 77) D
  refine am_aload_n (am_dec tmX9_init 0 rfl) rfl rfl ?_
  refine am_objInit (am_dec tmX9_init 1 rfl) lmo_X9_3 lk_obi lk_obc (by decide) ?_
  refine am_aload_n (am_dec tmX9_init 2 rfl) rfl rfl ?_
  refine am_bipush (v := (12 : Int32)) (am_dec tmX9_init 3 rfl) (by decide) ?_
  refine am_newarrK (t := 0) (N := 12) hE (am_dec tmX9_init 4 rfl) rfl (Or.inl ⟨rfl, rfl⟩) lk_ai (by decide) (by decide) sh_77 hF0 (Nat.le_of_ble_eq_true rfl) (Nat.le_of_ble_eq_true rfl) ?_
  have hF1 : am_FR _ _ 78 := am_FR_le hF0 (Nat.le_of_ble_eq_true rfl)
  refine am_putRK (j := 0) hE (am_dec tmX9_init 5 rfl) sh_76 (by decide) cf9 (by decide) rfl lf_X9_9 (Or.inr ⟨rfl, rfl⟩) (fun _ => rfl) (fun _ => rfl) ?_
  have hF2 : am_FR _ _ 78 := am_FR_R (a := 76) (j := 0) (v := some 77) hF1 (Nat.le_of_ble_eq_true rfl)
  refine am_aload_n (am_dec tmX9_init 6 rfl) rfl rfl ?_
  refine am_bipush (v := (12 : Int32)) (am_dec tmX9_init 7 rfl) (by decide) ?_
  refine am_newarrK (t := 0) (N := 12) hE (am_dec tmX9_init 8 rfl) rfl (Or.inl ⟨rfl, rfl⟩) lk_ai (by decide) (by decide) sh_78 hF2 (Nat.le_of_ble_eq_true rfl) (Nat.le_of_ble_eq_true rfl) ?_
  have hF3 : am_FR _ _ 79 := am_FR_le hF2 (Nat.le_of_ble_eq_true rfl)
  refine am_putRK (j := 1) hE (am_dec tmX9_init 9 rfl) sh_76 (by decide) cf9 (by decide) rfl lf_X9_15 (Or.inr ⟨rfl, rfl⟩) (fun _ => rfl) (fun _ => rfl) ?_
  have hF4 : am_FR _ _ 79 := am_FR_R (a := 76) (j := 1) (v := some 78) hF3 (Nat.le_of_ble_eq_true rfl)
  exact am_vret (am_dec tmX9_init 10 rfl) rfl (Nat.le_of_ble_eq_true rfl) (Nat.le_of_ble_eq_true rfl)
def vc_71 (V : Nat → Nat → Option Nat) : Nat → Nat → Option Nat := am_up2 (am_up2 (am_up2 (vc_76 (am_up2 (vc_74 (am_up2 (vc_72 (V)) 71 0 (some 72))) 71 1 (some 74))) 71 2 (some 76)) 71 3 (some 79)) 71 4 (some 80)
def dc_71 (D : am_D) : am_D := dc_76 (dc_74 (dc_72 (D)))
theorem fr_71 {V : Nat → Nat → Option Nat} {D : am_D} (hF0 : am_FR V D 72) : am_FR (vc_71 V) (dc_71 D) 81 := by
  have hF1 : am_FR _ _ 73 := am_FR_le hF0 (Nat.le_of_ble_eq_true rfl)
  have hF2 : am_FR _ _ 74 := fr_72 hF1
  have hF3 : am_FR _ _ 74 := am_FR_R (a := 71) (j := 0) (v := some 72) hF2 (Nat.le_of_ble_eq_true rfl)
  have hF4 : am_FR _ _ 75 := am_FR_le hF3 (Nat.le_of_ble_eq_true rfl)
  have hF5 : am_FR _ _ 76 := fr_74 hF4
  have hF6 : am_FR _ _ 76 := am_FR_R (a := 71) (j := 1) (v := some 74) hF5 (Nat.le_of_ble_eq_true rfl)
  have hF7 : am_FR _ _ 77 := am_FR_le hF6 (Nat.le_of_ble_eq_true rfl)
  have hF8 : am_FR _ _ 79 := fr_76 hF7
  have hF9 : am_FR _ _ 79 := am_FR_R (a := 71) (j := 2) (v := some 76) hF8 (Nat.le_of_ble_eq_true rfl)
  have hF10 : am_FR _ _ 80 := am_FR_le hF9 (Nat.le_of_ble_eq_true rfl)
  have hF11 : am_FR _ _ 80 := am_FR_R (a := 71) (j := 3) (v := some 79) hF10 (Nat.le_of_ble_eq_true rfl)
  have hF12 : am_FR _ _ 81 := am_FR_le hF11 (Nat.le_of_ble_eq_true rfl)
  have hF13 : am_FR _ _ 81 := am_FR_R (a := 71) (j := 4) (v := some 80) hF12 (Nat.le_of_ble_eq_true rfl)
  exact hF13
set_option maxRecDepth 100000 in
set_option maxHeartbeats 4000000 in
theorem ci_71 {E : am_E} (hE : am_EH E) (hA : am_AO E) {V : Nat → Nat → Option Nat} {D : am_D} (hF0 : am_FR V D 72) : am_C E mX3_init 2 9 3631 [.ref 71] (am_Gk V 72) D (.inl none) (am_Gk (vc_71 V) 81) (dc_71 D) := by
  refine am_C_of (by decide +kernel) (Nat.le_of_ble_eq_true rfl) ?_
  change am_S E mX3_init 2 9 3631 (.inl none) (am_Gk (vc_71 V) 81) (dc_71 D) 0 0 0 [(0, .ref 71)] [] (am_Gk V 72) D
  refine am_aload_n (am_dec tmX3_init 0 rfl) rfl rfl ?_
  refine am_objInit (am_dec tmX3_init 1 rfl) lmo_X3_3 lk_obi lk_obc (by decide) ?_
  refine am_aload_n (am_dec tmX3_init 2 rfl) rfl rfl ?_
  refine am_newK hE (am_dec tmX3_init 3 rfl) cf7 lck_X3_9 lk_ins_X7 lk_ini_X7 sh_72 hF0 dv_X7 (Nat.le_of_ble_eq_true rfl) (Nat.le_of_ble_eq_true rfl) ?_
  have hF1 : am_FR _ _ 73 := am_FR_le hF0 (Nat.le_of_ble_eq_true rfl)
  refine am_dup (am_dec tmX3_init 4 rfl) rfl ?_
  refine am_sipush (v := (1200 : Int32)) (am_dec tmX3_init 5 rfl) (by decide) ?_
  refine am_callI (As := [.int (1200 : Int32)]) (st := [.ref 72, .ref 71]) (am_dec tmX3_init 6 rfl) ok_X7_init rfl rfl rfl lm_X3_11 in_X7_init (ci_72 hE hA hF1) rfl (by decide) (by decide) (Nat.le_of_ble_eq_true rfl) (Nat.le_of_ble_eq_true rfl) rfl ?_
  have hF2 : am_FR _ _ 74 := fr_72 hF1
  refine am_putRK (j := 0) hE (am_dec tmX3_init 7 rfl) sh_71 (by decide) cf3 (by decide) rfl lf_X3_14 (Or.inr ⟨rfl, rfl⟩) (fun _ => rfl) (fun _ => rfl) ?_
  have hF3 : am_FR _ _ 74 := am_FR_R (a := 71) (j := 0) (v := some 72) hF2 (Nat.le_of_ble_eq_true rfl)
  refine am_aload_n (am_dec tmX3_init 8 rfl) rfl rfl ?_
  refine am_newK hE (am_dec tmX3_init 9 rfl) cf7 lck_X3_9 lk_ins_X7 lk_ini_X7 sh_74 hF3 dv_X7 (Nat.le_of_ble_eq_true rfl) (Nat.le_of_ble_eq_true rfl) ?_
  have hF4 : am_FR _ _ 75 := am_FR_le hF3 (Nat.le_of_ble_eq_true rfl)
  refine am_dup (am_dec tmX3_init 10 rfl) rfl ?_
  refine am_sipush (v := (1200 : Int32)) (am_dec tmX3_init 11 rfl) (by decide) ?_
  refine am_callI (As := [.int (1200 : Int32)]) (st := [.ref 74, .ref 71]) (am_dec tmX3_init 12 rfl) ok_X7_init rfl rfl rfl lm_X3_11 in_X7_init (ci_74 hE hA hF4) rfl (by decide) (by decide) (Nat.le_of_ble_eq_true rfl) (Nat.le_of_ble_eq_true rfl) rfl ?_
  have hF5 : am_FR _ _ 76 := fr_74 hF4
  refine am_putRK (j := 1) hE (am_dec tmX3_init 13 rfl) sh_71 (by decide) cf3 (by decide) rfl lf_X3_20 (Or.inr ⟨rfl, rfl⟩) (fun _ => rfl) (fun _ => rfl) ?_
  have hF6 : am_FR _ _ 76 := am_FR_R (a := 71) (j := 1) (v := some 74) hF5 (Nat.le_of_ble_eq_true rfl)
  refine am_aload_n (am_dec tmX3_init 14 rfl) rfl rfl ?_
  refine am_newK hE (am_dec tmX3_init 15 rfl) cf9 lck_X3_23 lk_ins_X9 lk_ini_X9 sh_76 hF6 dv_X9 (Nat.le_of_ble_eq_true rfl) (Nat.le_of_ble_eq_true rfl) ?_
  have hF7 : am_FR _ _ 77 := am_FR_le hF6 (Nat.le_of_ble_eq_true rfl)
  refine am_dup (am_dec tmX3_init 16 rfl) rfl ?_
  refine am_callI (As := []) (st := [.ref 76, .ref 71]) (am_dec tmX3_init 17 rfl) ok_X9_init rfl rfl rfl lm_X3_25 in_X9_init (ci_76 hE hA hF7) rfl (by decide) (by decide) (Nat.le_of_ble_eq_true rfl) (Nat.le_of_ble_eq_true rfl) rfl ?_
  have hF8 : am_FR _ _ 79 := fr_76 hF7
  refine am_putRK (j := 2) hE (am_dec tmX3_init 18 rfl) sh_71 (by decide) cf3 (by decide) rfl lf_X3_26 (Or.inr ⟨rfl, rfl⟩) (fun _ => rfl) (fun _ => rfl) ?_
  have hF9 : am_FR _ _ 79 := am_FR_R (a := 71) (j := 2) (v := some 76) hF8 (Nat.le_of_ble_eq_true rfl)
  refine am_aload_n (am_dec tmX3_init 19 rfl) rfl rfl ?_
  refine am_sipush (v := (600 : Int32)) (am_dec tmX3_init 20 rfl) (by decide) ?_
  refine am_newarrK (t := 0) (N := 600) hE (am_dec tmX3_init 21 rfl) rfl (Or.inl ⟨rfl, rfl⟩) lk_ai (by decide) (by decide) sh_79 hF9 (Nat.le_of_ble_eq_true rfl) (Nat.le_of_ble_eq_true rfl) ?_
  have hF10 : am_FR _ _ 80 := am_FR_le hF9 (Nat.le_of_ble_eq_true rfl)
  refine am_putRK (j := 3) hE (am_dec tmX3_init 22 rfl) sh_71 (by decide) cf3 (by decide) rfl lf_X3_30 (Or.inr ⟨rfl, rfl⟩) (fun _ => rfl) (fun _ => rfl) ?_
  have hF11 : am_FR _ _ 80 := am_FR_R (a := 71) (j := 3) (v := some 79) hF10 (Nat.le_of_ble_eq_true rfl)
  refine am_aload_n (am_dec tmX3_init 23 rfl) rfl rfl ?_
  refine am_sipush (v := (600 : Int32)) (am_dec tmX3_init 24 rfl) (by decide) ?_
  refine am_newarrK (t := 0) (N := 600) hE (am_dec tmX3_init 25 rfl) rfl (Or.inl ⟨rfl, rfl⟩) lk_ai (by decide) (by decide) sh_80 hF11 (Nat.le_of_ble_eq_true rfl) (Nat.le_of_ble_eq_true rfl) ?_
  have hF12 : am_FR _ _ 81 := am_FR_le hF11 (Nat.le_of_ble_eq_true rfl)
  refine am_putRK (j := 4) hE (am_dec tmX3_init 26 rfl) sh_71 (by decide) cf3 (by decide) rfl lf_X3_34 (Or.inr ⟨rfl, rfl⟩) (fun _ => rfl) (fun _ => rfl) ?_
  have hF13 : am_FR _ _ 81 := am_FR_R (a := 71) (j := 4) (v := some 80) hF12 (Nat.le_of_ble_eq_true rfl)
  exact am_vret (am_dec tmX3_init 27 rfl) rfl (Nat.le_of_ble_eq_true rfl) (Nat.le_of_ble_eq_true rfl)
def vc_82 (V : Nat → Nat → Option Nat) : Nat → Nat → Option Nat := am_up2 (V) 82 0 (some 83)
def dc_82 (D : am_D) : am_D := D
theorem fr_82 {V : Nat → Nat → Option Nat} {D : am_D} (hF0 : am_FR V D 83) : am_FR (vc_82 V) (dc_82 D) 84 := by
  have hF1 : am_FR _ _ 84 := am_FR_le hF0 (Nat.le_of_ble_eq_true rfl)
  have hF2 : am_FR _ _ 84 := am_FR_R (a := 82) (j := 0) (v := some 83) hF1 (Nat.le_of_ble_eq_true rfl)
  exact hF2
set_option maxRecDepth 100000 in
set_option maxHeartbeats 4000000 in
theorem ci_82 {E : am_E} (hE : am_EH E) (hA : am_AO E) {V : Nat → Nat → Option Nat} {D : am_D} (hF0 : am_FR V D 83) : am_C E mX7_init 1 1 1200 [.ref 82, .int (1200 : Int32)] (am_Gk V 83) D (.inl none) (am_Gk (vc_82 V) 84) (dc_82 D) := by
  refine am_C_of (by decide +kernel) (Nat.le_of_ble_eq_true rfl) ?_
  change am_S E mX7_init 1 1 1200 (.inl none) (am_Gk (vc_82 V) 84) (dc_82 D) 0 0 0 [(0, .ref 82), (1, .int (1200 : Int32))] [] (am_Gk V 83) D
  refine am_aload_n (am_dec tmX7_init 0 rfl) rfl rfl ?_
  refine am_objInit (am_dec tmX7_init 1 rfl) lmo_X7_3 lk_obi lk_obc (by decide) ?_
  refine am_aload_n (am_dec tmX7_init 2 rfl) rfl rfl ?_
  refine am_iload_n (am_dec tmX7_init 3 rfl) rfl rfl ?_
  refine am_iconst (v := (0 : Int32)) (am_dec tmX7_init 4 rfl) (by decide) ?_
  refine am_mmax (am_dec tmX7_init 5 rfl) lmm_X7_9 wm_1 wm_9 wm_2 (by decide) (Nat.le_of_ble_eq_true rfl) (Nat.le_of_ble_eq_true rfl) ?_
  refine am_newarrK (t := 0) (N := 1200) hE (am_dec tmX7_init 6 rfl) rfl (Or.inl ⟨rfl, rfl⟩) lk_ai (by decide) (by decide) sh_83 hF0 (Nat.le_of_ble_eq_true rfl) (Nat.le_of_ble_eq_true rfl) ?_
  have hF1 : am_FR _ _ 84 := am_FR_le hF0 (Nat.le_of_ble_eq_true rfl)
  refine am_putRK (j := 0) hE (am_dec tmX7_init 7 rfl) sh_82 (by decide) cf7 (by decide) rfl lf_X7_15 (Or.inr ⟨rfl, rfl⟩) (fun _ => rfl) (fun _ => rfl) ?_
  have hF2 : am_FR _ _ 84 := am_FR_R (a := 82) (j := 0) (v := some 83) hF1 (Nat.le_of_ble_eq_true rfl)
  exact am_vret (am_dec tmX7_init 8 rfl) rfl (Nat.le_of_ble_eq_true rfl) (Nat.le_of_ble_eq_true rfl)
def vc_84 (V : Nat → Nat → Option Nat) : Nat → Nat → Option Nat := am_up2 (V) 84 0 (some 85)
def dc_84 (D : am_D) : am_D := D
theorem fr_84 {V : Nat → Nat → Option Nat} {D : am_D} (hF0 : am_FR V D 85) : am_FR (vc_84 V) (dc_84 D) 86 := by
  have hF1 : am_FR _ _ 86 := am_FR_le hF0 (Nat.le_of_ble_eq_true rfl)
  have hF2 : am_FR _ _ 86 := am_FR_R (a := 84) (j := 0) (v := some 85) hF1 (Nat.le_of_ble_eq_true rfl)
  exact hF2
set_option maxRecDepth 100000 in
set_option maxHeartbeats 4000000 in
theorem ci_84 {E : am_E} (hE : am_EH E) (hA : am_AO E) {V : Nat → Nat → Option Nat} {D : am_D} (hF0 : am_FR V D 85) : am_C E mX7_init 1 1 1200 [.ref 84, .int (1200 : Int32)] (am_Gk V 85) D (.inl none) (am_Gk (vc_84 V) 86) (dc_84 D) := by
  refine am_C_of (by decide +kernel) (Nat.le_of_ble_eq_true rfl) ?_
  change am_S E mX7_init 1 1 1200 (.inl none) (am_Gk (vc_84 V) 86) (dc_84 D) 0 0 0 [(0, .ref 84), (1, .int (1200 : Int32))] [] (am_Gk V 85) D
  refine am_aload_n (am_dec tmX7_init 0 rfl) rfl rfl ?_
  refine am_objInit (am_dec tmX7_init 1 rfl) lmo_X7_3 lk_obi lk_obc (by decide) ?_
  refine am_aload_n (am_dec tmX7_init 2 rfl) rfl rfl ?_
  refine am_iload_n (am_dec tmX7_init 3 rfl) rfl rfl ?_
  refine am_iconst (v := (0 : Int32)) (am_dec tmX7_init 4 rfl) (by decide) ?_
  refine am_mmax (am_dec tmX7_init 5 rfl) lmm_X7_9 wm_1 wm_9 wm_2 (by decide) (Nat.le_of_ble_eq_true rfl) (Nat.le_of_ble_eq_true rfl) ?_
  refine am_newarrK (t := 0) (N := 1200) hE (am_dec tmX7_init 6 rfl) rfl (Or.inl ⟨rfl, rfl⟩) lk_ai (by decide) (by decide) sh_85 hF0 (Nat.le_of_ble_eq_true rfl) (Nat.le_of_ble_eq_true rfl) ?_
  have hF1 : am_FR _ _ 86 := am_FR_le hF0 (Nat.le_of_ble_eq_true rfl)
  refine am_putRK (j := 0) hE (am_dec tmX7_init 7 rfl) sh_84 (by decide) cf7 (by decide) rfl lf_X7_15 (Or.inr ⟨rfl, rfl⟩) (fun _ => rfl) (fun _ => rfl) ?_
  have hF2 : am_FR _ _ 86 := am_FR_R (a := 84) (j := 0) (v := some 85) hF1 (Nat.le_of_ble_eq_true rfl)
  exact am_vret (am_dec tmX7_init 8 rfl) rfl (Nat.le_of_ble_eq_true rfl) (Nat.le_of_ble_eq_true rfl)
def vc_86 (V : Nat → Nat → Option Nat) : Nat → Nat → Option Nat := am_up2 (am_up2 (V) 86 0 (some 87)) 86 1 (some 88)
def dc_86 (D : am_D) : am_D := D
theorem fr_86 {V : Nat → Nat → Option Nat} {D : am_D} (hF0 : am_FR V D 87) : am_FR (vc_86 V) (dc_86 D) 89 := by
  have hF1 : am_FR _ _ 88 := am_FR_le hF0 (Nat.le_of_ble_eq_true rfl)
  have hF2 : am_FR _ _ 88 := am_FR_R (a := 86) (j := 0) (v := some 87) hF1 (Nat.le_of_ble_eq_true rfl)
  have hF3 : am_FR _ _ 89 := am_FR_le hF2 (Nat.le_of_ble_eq_true rfl)
  have hF4 : am_FR _ _ 89 := am_FR_R (a := 86) (j := 1) (v := some 88) hF3 (Nat.le_of_ble_eq_true rfl)
  exact hF4
set_option maxRecDepth 100000 in
set_option maxHeartbeats 4000000 in
theorem ci_86 {E : am_E} (hE : am_EH E) (hA : am_AO E) {V : Nat → Nat → Option Nat} {D : am_D} (hF0 : am_FR V D 87) : am_C E mX9_init 1 2 24 [.ref 86] (am_Gk V 87) D (.inl none) (am_Gk (vc_86 V) 89) (dc_86 D) := by
  refine am_C_of (by decide +kernel) (Nat.le_of_ble_eq_true rfl) ?_
  change am_S E mX9_init 1 2 24 (.inl none) (am_Gk (vc_86 V) 89) (dc_86 D) 0 0 0 [(0, .ref 86)] [] (am_Gk V 87) D
  refine am_aload_n (am_dec tmX9_init 0 rfl) rfl rfl ?_
  refine am_objInit (am_dec tmX9_init 1 rfl) lmo_X9_3 lk_obi lk_obc (by decide) ?_
  refine am_aload_n (am_dec tmX9_init 2 rfl) rfl rfl ?_
  refine am_bipush (v := (12 : Int32)) (am_dec tmX9_init 3 rfl) (by decide) ?_
  refine am_newarrK (t := 0) (N := 12) hE (am_dec tmX9_init 4 rfl) rfl (Or.inl ⟨rfl, rfl⟩) lk_ai (by decide) (by decide) sh_87 hF0 (Nat.le_of_ble_eq_true rfl) (Nat.le_of_ble_eq_true rfl) ?_
  have hF1 : am_FR _ _ 88 := am_FR_le hF0 (Nat.le_of_ble_eq_true rfl)
  refine am_putRK (j := 0) hE (am_dec tmX9_init 5 rfl) sh_86 (by decide) cf9 (by decide) rfl lf_X9_9 (Or.inr ⟨rfl, rfl⟩) (fun _ => rfl) (fun _ => rfl) ?_
  have hF2 : am_FR _ _ 88 := am_FR_R (a := 86) (j := 0) (v := some 87) hF1 (Nat.le_of_ble_eq_true rfl)
  refine am_aload_n (am_dec tmX9_init 6 rfl) rfl rfl ?_
  refine am_bipush (v := (12 : Int32)) (am_dec tmX9_init 7 rfl) (by decide) ?_
  refine am_newarrK (t := 0) (N := 12) hE (am_dec tmX9_init 8 rfl) rfl (Or.inl ⟨rfl, rfl⟩) lk_ai (by decide) (by decide) sh_88 hF2 (Nat.le_of_ble_eq_true rfl) (Nat.le_of_ble_eq_true rfl) ?_
  have hF3 : am_FR _ _ 89 := am_FR_le hF2 (Nat.le_of_ble_eq_true rfl)
  refine am_putRK (j := 1) hE (am_dec tmX9_init 9 rfl) sh_86 (by decide) cf9 (by decide) rfl lf_X9_15 (Or.inr ⟨rfl, rfl⟩) (fun _ => rfl) (fun _ => rfl) ?_
  have hF4 : am_FR _ _ 89 := am_FR_R (a := 86) (j := 1) (v := some 88) hF3 (Nat.le_of_ble_eq_true rfl)
  exact am_vret (am_dec tmX9_init 10 rfl) rfl (Nat.le_of_ble_eq_true rfl) (Nat.le_of_ble_eq_true rfl)
def vc_81 (V : Nat → Nat → Option Nat) : Nat → Nat → Option Nat := am_up2 (am_up2 (am_up2 (vc_86 (am_up2 (vc_84 (am_up2 (vc_82 (V)) 81 0 (some 82))) 81 1 (some 84))) 81 2 (some 86)) 81 3 (some 89)) 81 4 (some 90)
def dc_81 (D : am_D) : am_D := dc_86 (dc_84 (dc_82 (D)))
theorem fr_81 {V : Nat → Nat → Option Nat} {D : am_D} (hF0 : am_FR V D 82) : am_FR (vc_81 V) (dc_81 D) 91 := by
  have hF1 : am_FR _ _ 83 := am_FR_le hF0 (Nat.le_of_ble_eq_true rfl)
  have hF2 : am_FR _ _ 84 := fr_82 hF1
  have hF3 : am_FR _ _ 84 := am_FR_R (a := 81) (j := 0) (v := some 82) hF2 (Nat.le_of_ble_eq_true rfl)
  have hF4 : am_FR _ _ 85 := am_FR_le hF3 (Nat.le_of_ble_eq_true rfl)
  have hF5 : am_FR _ _ 86 := fr_84 hF4
  have hF6 : am_FR _ _ 86 := am_FR_R (a := 81) (j := 1) (v := some 84) hF5 (Nat.le_of_ble_eq_true rfl)
  have hF7 : am_FR _ _ 87 := am_FR_le hF6 (Nat.le_of_ble_eq_true rfl)
  have hF8 : am_FR _ _ 89 := fr_86 hF7
  have hF9 : am_FR _ _ 89 := am_FR_R (a := 81) (j := 2) (v := some 86) hF8 (Nat.le_of_ble_eq_true rfl)
  have hF10 : am_FR _ _ 90 := am_FR_le hF9 (Nat.le_of_ble_eq_true rfl)
  have hF11 : am_FR _ _ 90 := am_FR_R (a := 81) (j := 3) (v := some 89) hF10 (Nat.le_of_ble_eq_true rfl)
  have hF12 : am_FR _ _ 91 := am_FR_le hF11 (Nat.le_of_ble_eq_true rfl)
  have hF13 : am_FR _ _ 91 := am_FR_R (a := 81) (j := 4) (v := some 90) hF12 (Nat.le_of_ble_eq_true rfl)
  exact hF13
set_option maxRecDepth 100000 in
set_option maxHeartbeats 4000000 in
theorem ci_81 {E : am_E} (hE : am_EH E) (hA : am_AO E) {V : Nat → Nat → Option Nat} {D : am_D} (hF0 : am_FR V D 82) : am_C E mX3_init 2 9 3631 [.ref 81] (am_Gk V 82) D (.inl none) (am_Gk (vc_81 V) 91) (dc_81 D) := by
  refine am_C_of (by decide +kernel) (Nat.le_of_ble_eq_true rfl) ?_
  change am_S E mX3_init 2 9 3631 (.inl none) (am_Gk (vc_81 V) 91) (dc_81 D) 0 0 0 [(0, .ref 81)] [] (am_Gk V 82) D
  refine am_aload_n (am_dec tmX3_init 0 rfl) rfl rfl ?_
  refine am_objInit (am_dec tmX3_init 1 rfl) lmo_X3_3 lk_obi lk_obc (by decide) ?_
  refine am_aload_n (am_dec tmX3_init 2 rfl) rfl rfl ?_
  refine am_newK hE (am_dec tmX3_init 3 rfl) cf7 lck_X3_9 lk_ins_X7 lk_ini_X7 sh_82 hF0 dv_X7 (Nat.le_of_ble_eq_true rfl) (Nat.le_of_ble_eq_true rfl) ?_
  have hF1 : am_FR _ _ 83 := am_FR_le hF0 (Nat.le_of_ble_eq_true rfl)
  refine am_dup (am_dec tmX3_init 4 rfl) rfl ?_
  refine am_sipush (v := (1200 : Int32)) (am_dec tmX3_init 5 rfl) (by decide) ?_
  refine am_callI (As := [.int (1200 : Int32)]) (st := [.ref 82, .ref 81]) (am_dec tmX3_init 6 rfl) ok_X7_init rfl rfl rfl lm_X3_11 in_X7_init (ci_82 hE hA hF1) rfl (by decide) (by decide) (Nat.le_of_ble_eq_true rfl) (Nat.le_of_ble_eq_true rfl) rfl ?_
  have hF2 : am_FR _ _ 84 := fr_82 hF1
  refine am_putRK (j := 0) hE (am_dec tmX3_init 7 rfl) sh_81 (by decide) cf3 (by decide) rfl lf_X3_14 (Or.inr ⟨rfl, rfl⟩) (fun _ => rfl) (fun _ => rfl) ?_
  have hF3 : am_FR _ _ 84 := am_FR_R (a := 81) (j := 0) (v := some 82) hF2 (Nat.le_of_ble_eq_true rfl)
  refine am_aload_n (am_dec tmX3_init 8 rfl) rfl rfl ?_
  refine am_newK hE (am_dec tmX3_init 9 rfl) cf7 lck_X3_9 lk_ins_X7 lk_ini_X7 sh_84 hF3 dv_X7 (Nat.le_of_ble_eq_true rfl) (Nat.le_of_ble_eq_true rfl) ?_
  have hF4 : am_FR _ _ 85 := am_FR_le hF3 (Nat.le_of_ble_eq_true rfl)
  refine am_dup (am_dec tmX3_init 10 rfl) rfl ?_
  refine am_sipush (v := (1200 : Int32)) (am_dec tmX3_init 11 rfl) (by decide) ?_
  refine am_callI (As := [.int (1200 : Int32)]) (st := [.ref 84, .ref 81]) (am_dec tmX3_init 12 rfl) ok_X7_init rfl rfl rfl lm_X3_11 in_X7_init (ci_84 hE hA hF4) rfl (by decide) (by decide) (Nat.le_of_ble_eq_true rfl) (Nat.le_of_ble_eq_true rfl) rfl ?_
  have hF5 : am_FR _ _ 86 := fr_84 hF4
  refine am_putRK (j := 1) hE (am_dec tmX3_init 13 rfl) sh_81 (by decide) cf3 (by decide) rfl lf_X3_20 (Or.inr ⟨rfl, rfl⟩) (fun _ => rfl) (fun _ => rfl) ?_
  have hF6 : am_FR _ _ 86 := am_FR_R (a := 81) (j := 1) (v := some 84) hF5 (Nat.le_of_ble_eq_true rfl)
  refine am_aload_n (am_dec tmX3_init 14 rfl) rfl rfl ?_
  refine am_newK hE (am_dec tmX3_init 15 rfl) cf9 lck_X3_23 lk_ins_X9 lk_ini_X9 sh_86 hF6 dv_X9 (Nat.le_of_ble_eq_true rfl) (Nat.le_of_ble_eq_true rfl) ?_
  have hF7 : am_FR _ _ 87 := am_FR_le hF6 (Nat.le_of_ble_eq_true rfl)
  refine am_dup (am_dec tmX3_init 16 rfl) rfl ?_
  refine am_callI (As := []) (st := [.ref 86, .ref 81]) (am_dec tmX3_init 17 rfl) ok_X9_init rfl rfl rfl lm_X3_25 in_X9_init (ci_86 hE hA hF7) rfl (by decide) (by decide) (Nat.le_of_ble_eq_true rfl) (Nat.le_of_ble_eq_true rfl) rfl ?_
  have hF8 : am_FR _ _ 89 := fr_86 hF7
  refine am_putRK (j := 2) hE (am_dec tmX3_init 18 rfl) sh_81 (by decide) cf3 (by decide) rfl lf_X3_26 (Or.inr ⟨rfl, rfl⟩) (fun _ => rfl) (fun _ => rfl) ?_
  have hF9 : am_FR _ _ 89 := am_FR_R (a := 81) (j := 2) (v := some 86) hF8 (Nat.le_of_ble_eq_true rfl)
  refine am_aload_n (am_dec tmX3_init 19 rfl) rfl rfl ?_
  refine am_sipush (v := (600 : Int32)) (am_dec tmX3_init 20 rfl) (by decide) ?_
  refine am_newarrK (t := 0) (N := 600) hE (am_dec tmX3_init 21 rfl) rfl (Or.inl ⟨rfl, rfl⟩) lk_ai (by decide) (by decide) sh_89 hF9 (Nat.le_of_ble_eq_true rfl) (Nat.le_of_ble_eq_true rfl) ?_
  have hF10 : am_FR _ _ 90 := am_FR_le hF9 (Nat.le_of_ble_eq_true rfl)
  refine am_putRK (j := 3) hE (am_dec tmX3_init 22 rfl) sh_81 (by decide) cf3 (by decide) rfl lf_X3_30 (Or.inr ⟨rfl, rfl⟩) (fun _ => rfl) (fun _ => rfl) ?_
  have hF11 : am_FR _ _ 90 := am_FR_R (a := 81) (j := 3) (v := some 89) hF10 (Nat.le_of_ble_eq_true rfl)
  refine am_aload_n (am_dec tmX3_init 23 rfl) rfl rfl ?_
  refine am_sipush (v := (600 : Int32)) (am_dec tmX3_init 24 rfl) (by decide) ?_
  refine am_newarrK (t := 0) (N := 600) hE (am_dec tmX3_init 25 rfl) rfl (Or.inl ⟨rfl, rfl⟩) lk_ai (by decide) (by decide) sh_90 hF11 (Nat.le_of_ble_eq_true rfl) (Nat.le_of_ble_eq_true rfl) ?_
  have hF12 : am_FR _ _ 91 := am_FR_le hF11 (Nat.le_of_ble_eq_true rfl)
  refine am_putRK (j := 4) hE (am_dec tmX3_init 26 rfl) sh_81 (by decide) cf3 (by decide) rfl lf_X3_34 (Or.inr ⟨rfl, rfl⟩) (fun _ => rfl) (fun _ => rfl) ?_
  have hF13 : am_FR _ _ 91 := am_FR_R (a := 81) (j := 4) (v := some 90) hF12 (Nat.le_of_ble_eq_true rfl)
  exact am_vret (am_dec tmX3_init 27 rfl) rfl (Nat.le_of_ble_eq_true rfl) (Nat.le_of_ble_eq_true rfl)
def vc_92 (V : Nat → Nat → Option Nat) : Nat → Nat → Option Nat := am_up2 (V) 92 0 (some 93)
def dc_92 (D : am_D) : am_D := D
theorem fr_92 {V : Nat → Nat → Option Nat} {D : am_D} (hF0 : am_FR V D 93) : am_FR (vc_92 V) (dc_92 D) 94 := by
  have hF1 : am_FR _ _ 94 := am_FR_le hF0 (Nat.le_of_ble_eq_true rfl)
  have hF2 : am_FR _ _ 94 := am_FR_R (a := 92) (j := 0) (v := some 93) hF1 (Nat.le_of_ble_eq_true rfl)
  exact hF2
set_option maxRecDepth 100000 in
set_option maxHeartbeats 4000000 in
theorem ci_92 {E : am_E} (hE : am_EH E) (hA : am_AO E) {V : Nat → Nat → Option Nat} {D : am_D} (hF0 : am_FR V D 93) : am_C E mX7_init 1 1 1200 [.ref 92, .int (1200 : Int32)] (am_Gk V 93) D (.inl none) (am_Gk (vc_92 V) 94) (dc_92 D) := by
  refine am_C_of (by decide +kernel) (Nat.le_of_ble_eq_true rfl) ?_
  change am_S E mX7_init 1 1 1200 (.inl none) (am_Gk (vc_92 V) 94) (dc_92 D) 0 0 0 [(0, .ref 92), (1, .int (1200 : Int32))] [] (am_Gk V 93) D
  refine am_aload_n (am_dec tmX7_init 0 rfl) rfl rfl ?_
  refine am_objInit (am_dec tmX7_init 1 rfl) lmo_X7_3 lk_obi lk_obc (by decide) ?_
  refine am_aload_n (am_dec tmX7_init 2 rfl) rfl rfl ?_
  refine am_iload_n (am_dec tmX7_init 3 rfl) rfl rfl ?_
  refine am_iconst (v := (0 : Int32)) (am_dec tmX7_init 4 rfl) (by decide) ?_
  refine am_mmax (am_dec tmX7_init 5 rfl) lmm_X7_9 wm_1 wm_9 wm_2 (by decide) (Nat.le_of_ble_eq_true rfl) (Nat.le_of_ble_eq_true rfl) ?_
  refine am_newarrK (t := 0) (N := 1200) hE (am_dec tmX7_init 6 rfl) rfl (Or.inl ⟨rfl, rfl⟩) lk_ai (by decide) (by decide) sh_93 hF0 (Nat.le_of_ble_eq_true rfl) (Nat.le_of_ble_eq_true rfl) ?_
  have hF1 : am_FR _ _ 94 := am_FR_le hF0 (Nat.le_of_ble_eq_true rfl)
  refine am_putRK (j := 0) hE (am_dec tmX7_init 7 rfl) sh_92 (by decide) cf7 (by decide) rfl lf_X7_15 (Or.inr ⟨rfl, rfl⟩) (fun _ => rfl) (fun _ => rfl) ?_
  have hF2 : am_FR _ _ 94 := am_FR_R (a := 92) (j := 0) (v := some 93) hF1 (Nat.le_of_ble_eq_true rfl)
  exact am_vret (am_dec tmX7_init 8 rfl) rfl (Nat.le_of_ble_eq_true rfl) (Nat.le_of_ble_eq_true rfl)
def vc_94 (V : Nat → Nat → Option Nat) : Nat → Nat → Option Nat := am_up2 (V) 94 0 (some 95)
def dc_94 (D : am_D) : am_D := D
theorem fr_94 {V : Nat → Nat → Option Nat} {D : am_D} (hF0 : am_FR V D 95) : am_FR (vc_94 V) (dc_94 D) 96 := by
  have hF1 : am_FR _ _ 96 := am_FR_le hF0 (Nat.le_of_ble_eq_true rfl)
  have hF2 : am_FR _ _ 96 := am_FR_R (a := 94) (j := 0) (v := some 95) hF1 (Nat.le_of_ble_eq_true rfl)
  exact hF2
set_option maxRecDepth 100000 in
set_option maxHeartbeats 4000000 in
theorem ci_94 {E : am_E} (hE : am_EH E) (hA : am_AO E) {V : Nat → Nat → Option Nat} {D : am_D} (hF0 : am_FR V D 95) : am_C E mX7_init 1 1 1200 [.ref 94, .int (1200 : Int32)] (am_Gk V 95) D (.inl none) (am_Gk (vc_94 V) 96) (dc_94 D) := by
  refine am_C_of (by decide +kernel) (Nat.le_of_ble_eq_true rfl) ?_
  change am_S E mX7_init 1 1 1200 (.inl none) (am_Gk (vc_94 V) 96) (dc_94 D) 0 0 0 [(0, .ref 94), (1, .int (1200 : Int32))] [] (am_Gk V 95) D
  refine am_aload_n (am_dec tmX7_init 0 rfl) rfl rfl ?_
  refine am_objInit (am_dec tmX7_init 1 rfl) lmo_X7_3 lk_obi lk_obc (by decide) ?_
  refine am_aload_n (am_dec tmX7_init 2 rfl) rfl rfl ?_
  refine am_iload_n (am_dec tmX7_init 3 rfl) rfl rfl ?_
  refine am_iconst (v := (0 : Int32)) (am_dec tmX7_init 4 rfl) (by decide) ?_
  refine am_mmax (am_dec tmX7_init 5 rfl) lmm_X7_9 wm_1 wm_9 wm_2 (by decide) (Nat.le_of_ble_eq_true rfl) (Nat.le_of_ble_eq_true rfl) ?_
  refine am_newarrK (t := 0) (N := 1200) hE (am_dec tmX7_init 6 rfl) rfl (Or.inl ⟨rfl, rfl⟩) lk_ai (by decide) (by decide) sh_95 hF0 (Nat.le_of_ble_eq_true rfl) (Nat.le_of_ble_eq_true rfl) ?_
  have hF1 : am_FR _ _ 96 := am_FR_le hF0 (Nat.le_of_ble_eq_true rfl)
  refine am_putRK (j := 0) hE (am_dec tmX7_init 7 rfl) sh_94 (by decide) cf7 (by decide) rfl lf_X7_15 (Or.inr ⟨rfl, rfl⟩) (fun _ => rfl) (fun _ => rfl) ?_
  have hF2 : am_FR _ _ 96 := am_FR_R (a := 94) (j := 0) (v := some 95) hF1 (Nat.le_of_ble_eq_true rfl)
  exact am_vret (am_dec tmX7_init 8 rfl) rfl (Nat.le_of_ble_eq_true rfl) (Nat.le_of_ble_eq_true rfl)
def vc_96 (V : Nat → Nat → Option Nat) : Nat → Nat → Option Nat := am_up2 (am_up2 (V) 96 0 (some 97)) 96 1 (some 98)
def dc_96 (D : am_D) : am_D := D
theorem fr_96 {V : Nat → Nat → Option Nat} {D : am_D} (hF0 : am_FR V D 97) : am_FR (vc_96 V) (dc_96 D) 99 := by
  have hF1 : am_FR _ _ 98 := am_FR_le hF0 (Nat.le_of_ble_eq_true rfl)
  have hF2 : am_FR _ _ 98 := am_FR_R (a := 96) (j := 0) (v := some 97) hF1 (Nat.le_of_ble_eq_true rfl)
  have hF3 : am_FR _ _ 99 := am_FR_le hF2 (Nat.le_of_ble_eq_true rfl)
  have hF4 : am_FR _ _ 99 := am_FR_R (a := 96) (j := 1) (v := some 98) hF3 (Nat.le_of_ble_eq_true rfl)
  exact hF4
set_option maxRecDepth 100000 in
set_option maxHeartbeats 4000000 in
theorem ci_96 {E : am_E} (hE : am_EH E) (hA : am_AO E) {V : Nat → Nat → Option Nat} {D : am_D} (hF0 : am_FR V D 97) : am_C E mX9_init 1 2 24 [.ref 96] (am_Gk V 97) D (.inl none) (am_Gk (vc_96 V) 99) (dc_96 D) := by
  refine am_C_of (by decide +kernel) (Nat.le_of_ble_eq_true rfl) ?_
  change am_S E mX9_init 1 2 24 (.inl none) (am_Gk (vc_96 V) 99) (dc_96 D) 0 0 0 [(0, .ref 96)] [] (am_Gk V 97) D
  refine am_aload_n (am_dec tmX9_init 0 rfl) rfl rfl ?_
  refine am_objInit (am_dec tmX9_init 1 rfl) lmo_X9_3 lk_obi lk_obc (by decide) ?_
  refine am_aload_n (am_dec tmX9_init 2 rfl) rfl rfl ?_
  refine am_bipush (v := (12 : Int32)) (am_dec tmX9_init 3 rfl) (by decide) ?_
  refine am_newarrK (t := 0) (N := 12) hE (am_dec tmX9_init 4 rfl) rfl (Or.inl ⟨rfl, rfl⟩) lk_ai (by decide) (by decide) sh_97 hF0 (Nat.le_of_ble_eq_true rfl) (Nat.le_of_ble_eq_true rfl) ?_
  have hF1 : am_FR _ _ 98 := am_FR_le hF0 (Nat.le_of_ble_eq_true rfl)
  refine am_putRK (j := 0) hE (am_dec tmX9_init 5 rfl) sh_96 (by decide) cf9 (by decide) rfl lf_X9_9 (Or.inr ⟨rfl, rfl⟩) (fun _ => rfl) (fun _ => rfl) ?_
  have hF2 : am_FR _ _ 98 := am_FR_R (a := 96) (j := 0) (v := some 97) hF1 (Nat.le_of_ble_eq_true rfl)
  refine am_aload_n (am_dec tmX9_init 6 rfl) rfl rfl ?_
  refine am_bipush (v := (12 : Int32)) (am_dec tmX9_init 7 rfl) (by decide) ?_
  refine am_newarrK (t := 0) (N := 12) hE (am_dec tmX9_init 8 rfl) rfl (Or.inl ⟨rfl, rfl⟩) lk_ai (by decide) (by decide) sh_98 hF2 (Nat.le_of_ble_eq_true rfl) (Nat.le_of_ble_eq_true rfl) ?_
  have hF3 : am_FR _ _ 99 := am_FR_le hF2 (Nat.le_of_ble_eq_true rfl)
  refine am_putRK (j := 1) hE (am_dec tmX9_init 9 rfl) sh_96 (by decide) cf9 (by decide) rfl lf_X9_15 (Or.inr ⟨rfl, rfl⟩) (fun _ => rfl) (fun _ => rfl) ?_
  have hF4 : am_FR _ _ 99 := am_FR_R (a := 96) (j := 1) (v := some 98) hF3 (Nat.le_of_ble_eq_true rfl)
  exact am_vret (am_dec tmX9_init 10 rfl) rfl (Nat.le_of_ble_eq_true rfl) (Nat.le_of_ble_eq_true rfl)
def vc_91 (V : Nat → Nat → Option Nat) : Nat → Nat → Option Nat := am_up2 (am_up2 (am_up2 (vc_96 (am_up2 (vc_94 (am_up2 (vc_92 (V)) 91 0 (some 92))) 91 1 (some 94))) 91 2 (some 96)) 91 3 (some 99)) 91 4 (some 100)
def dc_91 (D : am_D) : am_D := dc_96 (dc_94 (dc_92 (D)))
theorem fr_91 {V : Nat → Nat → Option Nat} {D : am_D} (hF0 : am_FR V D 92) : am_FR (vc_91 V) (dc_91 D) 101 := by
  have hF1 : am_FR _ _ 93 := am_FR_le hF0 (Nat.le_of_ble_eq_true rfl)
  have hF2 : am_FR _ _ 94 := fr_92 hF1
  have hF3 : am_FR _ _ 94 := am_FR_R (a := 91) (j := 0) (v := some 92) hF2 (Nat.le_of_ble_eq_true rfl)
  have hF4 : am_FR _ _ 95 := am_FR_le hF3 (Nat.le_of_ble_eq_true rfl)
  have hF5 : am_FR _ _ 96 := fr_94 hF4
  have hF6 : am_FR _ _ 96 := am_FR_R (a := 91) (j := 1) (v := some 94) hF5 (Nat.le_of_ble_eq_true rfl)
  have hF7 : am_FR _ _ 97 := am_FR_le hF6 (Nat.le_of_ble_eq_true rfl)
  have hF8 : am_FR _ _ 99 := fr_96 hF7
  have hF9 : am_FR _ _ 99 := am_FR_R (a := 91) (j := 2) (v := some 96) hF8 (Nat.le_of_ble_eq_true rfl)
  have hF10 : am_FR _ _ 100 := am_FR_le hF9 (Nat.le_of_ble_eq_true rfl)
  have hF11 : am_FR _ _ 100 := am_FR_R (a := 91) (j := 3) (v := some 99) hF10 (Nat.le_of_ble_eq_true rfl)
  have hF12 : am_FR _ _ 101 := am_FR_le hF11 (Nat.le_of_ble_eq_true rfl)
  have hF13 : am_FR _ _ 101 := am_FR_R (a := 91) (j := 4) (v := some 100) hF12 (Nat.le_of_ble_eq_true rfl)
  exact hF13
set_option maxRecDepth 100000 in
set_option maxHeartbeats 4000000 in
theorem ci_91 {E : am_E} (hE : am_EH E) (hA : am_AO E) {V : Nat → Nat → Option Nat} {D : am_D} (hF0 : am_FR V D 92) : am_C E mX3_init 2 9 3631 [.ref 91] (am_Gk V 92) D (.inl none) (am_Gk (vc_91 V) 101) (dc_91 D) := by
  refine am_C_of (by decide +kernel) (Nat.le_of_ble_eq_true rfl) ?_
  change am_S E mX3_init 2 9 3631 (.inl none) (am_Gk (vc_91 V) 101) (dc_91 D) 0 0 0 [(0, .ref 91)] [] (am_Gk V 92) D
  refine am_aload_n (am_dec tmX3_init 0 rfl) rfl rfl ?_
  refine am_objInit (am_dec tmX3_init 1 rfl) lmo_X3_3 lk_obi lk_obc (by decide) ?_
  refine am_aload_n (am_dec tmX3_init 2 rfl) rfl rfl ?_
  refine am_newK hE (am_dec tmX3_init 3 rfl) cf7 lck_X3_9 lk_ins_X7 lk_ini_X7 sh_92 hF0 dv_X7 (Nat.le_of_ble_eq_true rfl) (Nat.le_of_ble_eq_true rfl) ?_
  have hF1 : am_FR _ _ 93 := am_FR_le hF0 (Nat.le_of_ble_eq_true rfl)
  refine am_dup (am_dec tmX3_init 4 rfl) rfl ?_
  refine am_sipush (v := (1200 : Int32)) (am_dec tmX3_init 5 rfl) (by decide) ?_
  refine am_callI (As := [.int (1200 : Int32)]) (st := [.ref 92, .ref 91]) (am_dec tmX3_init 6 rfl) ok_X7_init rfl rfl rfl lm_X3_11 in_X7_init (ci_92 hE hA hF1) rfl (by decide) (by decide) (Nat.le_of_ble_eq_true rfl) (Nat.le_of_ble_eq_true rfl) rfl ?_
  have hF2 : am_FR _ _ 94 := fr_92 hF1
  refine am_putRK (j := 0) hE (am_dec tmX3_init 7 rfl) sh_91 (by decide) cf3 (by decide) rfl lf_X3_14 (Or.inr ⟨rfl, rfl⟩) (fun _ => rfl) (fun _ => rfl) ?_
  have hF3 : am_FR _ _ 94 := am_FR_R (a := 91) (j := 0) (v := some 92) hF2 (Nat.le_of_ble_eq_true rfl)
  refine am_aload_n (am_dec tmX3_init 8 rfl) rfl rfl ?_
  refine am_newK hE (am_dec tmX3_init 9 rfl) cf7 lck_X3_9 lk_ins_X7 lk_ini_X7 sh_94 hF3 dv_X7 (Nat.le_of_ble_eq_true rfl) (Nat.le_of_ble_eq_true rfl) ?_
  have hF4 : am_FR _ _ 95 := am_FR_le hF3 (Nat.le_of_ble_eq_true rfl)
  refine am_dup (am_dec tmX3_init 10 rfl) rfl ?_
  refine am_sipush (v := (1200 : Int32)) (am_dec tmX3_init 11 rfl) (by decide) ?_
  refine am_callI (As := [.int (1200 : Int32)]) (st := [.ref 94, .ref 91]) (am_dec tmX3_init 12 rfl) ok_X7_init rfl rfl rfl lm_X3_11 in_X7_init (ci_94 hE hA hF4) rfl (by decide) (by decide) (Nat.le_of_ble_eq_true rfl) (Nat.le_of_ble_eq_true rfl) rfl ?_
  have hF5 : am_FR _ _ 96 := fr_94 hF4
  refine am_putRK (j := 1) hE (am_dec tmX3_init 13 rfl) sh_91 (by decide) cf3 (by decide) rfl lf_X3_20 (Or.inr ⟨rfl, rfl⟩) (fun _ => rfl) (fun _ => rfl) ?_
  have hF6 : am_FR _ _ 96 := am_FR_R (a := 91) (j := 1) (v := some 94) hF5 (Nat.le_of_ble_eq_true rfl)
  refine am_aload_n (am_dec tmX3_init 14 rfl) rfl rfl ?_
  refine am_newK hE (am_dec tmX3_init 15 rfl) cf9 lck_X3_23 lk_ins_X9 lk_ini_X9 sh_96 hF6 dv_X9 (Nat.le_of_ble_eq_true rfl) (Nat.le_of_ble_eq_true rfl) ?_
  have hF7 : am_FR _ _ 97 := am_FR_le hF6 (Nat.le_of_ble_eq_true rfl)
  refine am_dup (am_dec tmX3_init 16 rfl) rfl ?_
  refine am_callI (As := []) (st := [.ref 96, .ref 91]) (am_dec tmX3_init 17 rfl) ok_X9_init rfl rfl rfl lm_X3_25 in_X9_init (ci_96 hE hA hF7) rfl (by decide) (by decide) (Nat.le_of_ble_eq_true rfl) (Nat.le_of_ble_eq_true rfl) rfl ?_
  have hF8 : am_FR _ _ 99 := fr_96 hF7
  refine am_putRK (j := 2) hE (am_dec tmX3_init 18 rfl) sh_91 (by decide) cf3 (by decide) rfl lf_X3_26 (Or.inr ⟨rfl, rfl⟩) (fun _ => rfl) (fun _ => rfl) ?_
  have hF9 : am_FR _ _ 99 := am_FR_R (a := 91) (j := 2) (v := some 96) hF8 (Nat.le_of_ble_eq_true rfl)
  refine am_aload_n (am_dec tmX3_init 19 rfl) rfl rfl ?_
  refine am_sipush (v := (600 : Int32)) (am_dec tmX3_init 20 rfl) (by decide) ?_
  refine am_newarrK (t := 0) (N := 600) hE (am_dec tmX3_init 21 rfl) rfl (Or.inl ⟨rfl, rfl⟩) lk_ai (by decide) (by decide) sh_99 hF9 (Nat.le_of_ble_eq_true rfl) (Nat.le_of_ble_eq_true rfl) ?_
  have hF10 : am_FR _ _ 100 := am_FR_le hF9 (Nat.le_of_ble_eq_true rfl)
  refine am_putRK (j := 3) hE (am_dec tmX3_init 22 rfl) sh_91 (by decide) cf3 (by decide) rfl lf_X3_30 (Or.inr ⟨rfl, rfl⟩) (fun _ => rfl) (fun _ => rfl) ?_
  have hF11 : am_FR _ _ 100 := am_FR_R (a := 91) (j := 3) (v := some 99) hF10 (Nat.le_of_ble_eq_true rfl)
  refine am_aload_n (am_dec tmX3_init 23 rfl) rfl rfl ?_
  refine am_sipush (v := (600 : Int32)) (am_dec tmX3_init 24 rfl) (by decide) ?_
  refine am_newarrK (t := 0) (N := 600) hE (am_dec tmX3_init 25 rfl) rfl (Or.inl ⟨rfl, rfl⟩) lk_ai (by decide) (by decide) sh_100 hF11 (Nat.le_of_ble_eq_true rfl) (Nat.le_of_ble_eq_true rfl) ?_
  have hF12 : am_FR _ _ 101 := am_FR_le hF11 (Nat.le_of_ble_eq_true rfl)
  refine am_putRK (j := 4) hE (am_dec tmX3_init 26 rfl) sh_91 (by decide) cf3 (by decide) rfl lf_X3_34 (Or.inr ⟨rfl, rfl⟩) (fun _ => rfl) (fun _ => rfl) ?_
  have hF13 : am_FR _ _ 101 := am_FR_R (a := 91) (j := 4) (v := some 100) hF12 (Nat.le_of_ble_eq_true rfl)
  exact am_vret (am_dec tmX3_init 27 rfl) rfl (Nat.le_of_ble_eq_true rfl) (Nat.le_of_ble_eq_true rfl)
def vc_101 (V : Nat → Nat → Option Nat) : Nat → Nat → Option Nat := am_up2 (V) 101 0 (some 102)
def dc_101 (D : am_D) : am_D := D
theorem fr_101 {V : Nat → Nat → Option Nat} {D : am_D} (hF0 : am_FR V D 102) : am_FR (vc_101 V) (dc_101 D) 103 := by
  have hF1 : am_FR _ _ 103 := am_FR_le hF0 (Nat.le_of_ble_eq_true rfl)
  have hF2 : am_FR _ _ 103 := am_FR_R (a := 101) (j := 0) (v := some 102) hF1 (Nat.le_of_ble_eq_true rfl)
  exact hF2
set_option maxRecDepth 100000 in
set_option maxHeartbeats 4000000 in
theorem ci_101 {E : am_E} (hE : am_EH E) (hA : am_AO E) {V : Nat → Nat → Option Nat} {D : am_D} (hF0 : am_FR V D 102) : am_C E mX7_init 1 1 600 [.ref 101, .int (600 : Int32)] (am_Gk V 102) D (.inl none) (am_Gk (vc_101 V) 103) (dc_101 D) := by
  refine am_C_of (by decide +kernel) (Nat.le_of_ble_eq_true rfl) ?_
  change am_S E mX7_init 1 1 600 (.inl none) (am_Gk (vc_101 V) 103) (dc_101 D) 0 0 0 [(0, .ref 101), (1, .int (600 : Int32))] [] (am_Gk V 102) D
  refine am_aload_n (am_dec tmX7_init 0 rfl) rfl rfl ?_
  refine am_objInit (am_dec tmX7_init 1 rfl) lmo_X7_3 lk_obi lk_obc (by decide) ?_
  refine am_aload_n (am_dec tmX7_init 2 rfl) rfl rfl ?_
  refine am_iload_n (am_dec tmX7_init 3 rfl) rfl rfl ?_
  refine am_iconst (v := (0 : Int32)) (am_dec tmX7_init 4 rfl) (by decide) ?_
  refine am_mmax (am_dec tmX7_init 5 rfl) lmm_X7_9 wm_1 wm_9 wm_2 (by decide) (Nat.le_of_ble_eq_true rfl) (Nat.le_of_ble_eq_true rfl) ?_
  refine am_newarrK (t := 0) (N := 600) hE (am_dec tmX7_init 6 rfl) rfl (Or.inl ⟨rfl, rfl⟩) lk_ai (by decide) (by decide) sh_102 hF0 (Nat.le_of_ble_eq_true rfl) (Nat.le_of_ble_eq_true rfl) ?_
  have hF1 : am_FR _ _ 103 := am_FR_le hF0 (Nat.le_of_ble_eq_true rfl)
  refine am_putRK (j := 0) hE (am_dec tmX7_init 7 rfl) sh_101 (by decide) cf7 (by decide) rfl lf_X7_15 (Or.inr ⟨rfl, rfl⟩) (fun _ => rfl) (fun _ => rfl) ?_
  have hF2 : am_FR _ _ 103 := am_FR_R (a := 101) (j := 0) (v := some 102) hF1 (Nat.le_of_ble_eq_true rfl)
  exact am_vret (am_dec tmX7_init 8 rfl) rfl (Nat.le_of_ble_eq_true rfl) (Nat.le_of_ble_eq_true rfl)
def vc_103 (V : Nat → Nat → Option Nat) : Nat → Nat → Option Nat := am_up2 (am_up2 (V) 103 0 (some 104)) 103 1 (some 105)
def dc_103 (D : am_D) : am_D := D
theorem fr_103 {V : Nat → Nat → Option Nat} {D : am_D} (hF0 : am_FR V D 104) : am_FR (vc_103 V) (dc_103 D) 106 := by
  have hF1 : am_FR _ _ 105 := am_FR_le hF0 (Nat.le_of_ble_eq_true rfl)
  have hF2 : am_FR _ _ 105 := am_FR_R (a := 103) (j := 0) (v := some 104) hF1 (Nat.le_of_ble_eq_true rfl)
  have hF3 : am_FR _ _ 106 := am_FR_le hF2 (Nat.le_of_ble_eq_true rfl)
  have hF4 : am_FR _ _ 106 := am_FR_R (a := 103) (j := 1) (v := some 105) hF3 (Nat.le_of_ble_eq_true rfl)
  exact hF4
set_option maxRecDepth 100000 in
set_option maxHeartbeats 4000000 in
theorem ci_103 {E : am_E} (hE : am_EH E) (hA : am_AO E) {V : Nat → Nat → Option Nat} {D : am_D} (hF0 : am_FR V D 104) : am_C E mX9_init 1 2 24 [.ref 103] (am_Gk V 104) D (.inl none) (am_Gk (vc_103 V) 106) (dc_103 D) := by
  refine am_C_of (by decide +kernel) (Nat.le_of_ble_eq_true rfl) ?_
  change am_S E mX9_init 1 2 24 (.inl none) (am_Gk (vc_103 V) 106) (dc_103 D) 0 0 0 [(0, .ref 103)] [] (am_Gk V 104) D
  refine am_aload_n (am_dec tmX9_init 0 rfl) rfl rfl ?_
  refine am_objInit (am_dec tmX9_init 1 rfl) lmo_X9_3 lk_obi lk_obc (by decide) ?_
  refine am_aload_n (am_dec tmX9_init 2 rfl) rfl rfl ?_
  refine am_bipush (v := (12 : Int32)) (am_dec tmX9_init 3 rfl) (by decide) ?_
  refine am_newarrK (t := 0) (N := 12) hE (am_dec tmX9_init 4 rfl) rfl (Or.inl ⟨rfl, rfl⟩) lk_ai (by decide) (by decide) sh_104 hF0 (Nat.le_of_ble_eq_true rfl) (Nat.le_of_ble_eq_true rfl) ?_
  have hF1 : am_FR _ _ 105 := am_FR_le hF0 (Nat.le_of_ble_eq_true rfl)
  refine am_putRK (j := 0) hE (am_dec tmX9_init 5 rfl) sh_103 (by decide) cf9 (by decide) rfl lf_X9_9 (Or.inr ⟨rfl, rfl⟩) (fun _ => rfl) (fun _ => rfl) ?_
  have hF2 : am_FR _ _ 105 := am_FR_R (a := 103) (j := 0) (v := some 104) hF1 (Nat.le_of_ble_eq_true rfl)
  refine am_aload_n (am_dec tmX9_init 6 rfl) rfl rfl ?_
  refine am_bipush (v := (12 : Int32)) (am_dec tmX9_init 7 rfl) (by decide) ?_
  refine am_newarrK (t := 0) (N := 12) hE (am_dec tmX9_init 8 rfl) rfl (Or.inl ⟨rfl, rfl⟩) lk_ai (by decide) (by decide) sh_105 hF2 (Nat.le_of_ble_eq_true rfl) (Nat.le_of_ble_eq_true rfl) ?_
  have hF3 : am_FR _ _ 106 := am_FR_le hF2 (Nat.le_of_ble_eq_true rfl)
  refine am_putRK (j := 1) hE (am_dec tmX9_init 9 rfl) sh_103 (by decide) cf9 (by decide) rfl lf_X9_15 (Or.inr ⟨rfl, rfl⟩) (fun _ => rfl) (fun _ => rfl) ?_
  have hF4 : am_FR _ _ 106 := am_FR_R (a := 103) (j := 1) (v := some 105) hF3 (Nat.le_of_ble_eq_true rfl)
  exact am_vret (am_dec tmX9_init 10 rfl) rfl (Nat.le_of_ble_eq_true rfl) (Nat.le_of_ble_eq_true rfl)
def vc_106 (V : Nat → Nat → Option Nat) : Nat → Nat → Option Nat := am_up2 (am_up2 (V) 106 0 (some 107)) 106 1 (some 108)
def dc_106 (D : am_D) : am_D := D
theorem fr_106 {V : Nat → Nat → Option Nat} {D : am_D} (hF0 : am_FR V D 107) : am_FR (vc_106 V) (dc_106 D) 109 := by
  have hF1 : am_FR _ _ 108 := am_FR_le hF0 (Nat.le_of_ble_eq_true rfl)
  have hF2 : am_FR _ _ 108 := am_FR_R (a := 106) (j := 0) (v := some 107) hF1 (Nat.le_of_ble_eq_true rfl)
  have hF3 : am_FR _ _ 109 := am_FR_le hF2 (Nat.le_of_ble_eq_true rfl)
  have hF4 : am_FR _ _ 109 := am_FR_R (a := 106) (j := 1) (v := some 108) hF3 (Nat.le_of_ble_eq_true rfl)
  exact hF4
set_option maxRecDepth 100000 in
set_option maxHeartbeats 4000000 in
theorem ci_106 {E : am_E} (hE : am_EH E) (hA : am_AO E) {V : Nat → Nat → Option Nat} {D : am_D} (hF0 : am_FR V D 107) : am_C E mX0_init 1 2 800 [.ref 106] (am_Gk V 107) D (.inl none) (am_Gk (vc_106 V) 109) (dc_106 D) := by
  refine am_C_of (by decide +kernel) (Nat.le_of_ble_eq_true rfl) ?_
  change am_S E mX0_init 1 2 800 (.inl none) (am_Gk (vc_106 V) 109) (dc_106 D) 0 0 0 [(0, .ref 106)] [] (am_Gk V 107) D
  refine am_aload_n (am_dec tmX0_init 0 rfl) rfl rfl ?_
  refine am_objInit (am_dec tmX0_init 1 rfl) lmo_X0_3 lk_obi lk_obc (by decide) ?_
  refine am_aload_n (am_dec tmX0_init 2 rfl) rfl rfl ?_
  refine am_sipush (v := (600 : Int32)) (am_dec tmX0_init 3 rfl) (by decide) ?_
  refine am_newarrK (t := 0) (N := 600) hE (am_dec tmX0_init 4 rfl) rfl (Or.inl ⟨rfl, rfl⟩) lk_ai (by decide) (by decide) sh_107 hF0 (Nat.le_of_ble_eq_true rfl) (Nat.le_of_ble_eq_true rfl) ?_
  have hF1 : am_FR _ _ 108 := am_FR_le hF0 (Nat.le_of_ble_eq_true rfl)
  refine am_putRK (j := 0) hE (am_dec tmX0_init 5 rfl) sh_106 (by decide) cf0 (by decide) rfl lf_X0_9 (Or.inr ⟨rfl, rfl⟩) (fun _ => rfl) (fun _ => rfl) ?_
  have hF2 : am_FR _ _ 108 := am_FR_R (a := 106) (j := 0) (v := some 107) hF1 (Nat.le_of_ble_eq_true rfl)
  refine am_aload_n (am_dec tmX0_init 6 rfl) rfl rfl ?_
  refine am_sipush (v := (200 : Int32)) (am_dec tmX0_init 7 rfl) (by decide) ?_
  refine am_newarrK (t := 0) (N := 200) hE (am_dec tmX0_init 8 rfl) rfl (Or.inl ⟨rfl, rfl⟩) lk_ai (by decide) (by decide) sh_108 hF2 (Nat.le_of_ble_eq_true rfl) (Nat.le_of_ble_eq_true rfl) ?_
  have hF3 : am_FR _ _ 109 := am_FR_le hF2 (Nat.le_of_ble_eq_true rfl)
  refine am_putRK (j := 1) hE (am_dec tmX0_init 9 rfl) sh_106 (by decide) cf0 (by decide) rfl lf_X0_15 (Or.inr ⟨rfl, rfl⟩) (fun _ => rfl) (fun _ => rfl) ?_
  have hF4 : am_FR _ _ 109 := am_FR_R (a := 106) (j := 1) (v := some 108) hF3 (Nat.le_of_ble_eq_true rfl)
  exact am_vret (am_dec tmX0_init 10 rfl) rfl (Nat.le_of_ble_eq_true rfl) (Nat.le_of_ble_eq_true rfl)
def vc_109 (V : Nat → Nat → Option Nat) : Nat → Nat → Option Nat := am_up2 (am_up2 (V) 109 0 (some 110)) 109 1 (some 111)
def dc_109 (D : am_D) : am_D := D
theorem fr_109 {V : Nat → Nat → Option Nat} {D : am_D} (hF0 : am_FR V D 110) : am_FR (vc_109 V) (dc_109 D) 112 := by
  have hF1 : am_FR _ _ 111 := am_FR_le hF0 (Nat.le_of_ble_eq_true rfl)
  have hF2 : am_FR _ _ 111 := am_FR_R (a := 109) (j := 0) (v := some 110) hF1 (Nat.le_of_ble_eq_true rfl)
  have hF3 : am_FR _ _ 112 := am_FR_le hF2 (Nat.le_of_ble_eq_true rfl)
  have hF4 : am_FR _ _ 112 := am_FR_R (a := 109) (j := 1) (v := some 111) hF3 (Nat.le_of_ble_eq_true rfl)
  exact hF4
set_option maxRecDepth 100000 in
set_option maxHeartbeats 4000000 in
theorem ci_109 {E : am_E} (hE : am_EH E) (hA : am_AO E) {V : Nat → Nat → Option Nat} {D : am_D} (hF0 : am_FR V D 110) : am_C E mX0_init 1 2 800 [.ref 109] (am_Gk V 110) D (.inl none) (am_Gk (vc_109 V) 112) (dc_109 D) := by
  refine am_C_of (by decide +kernel) (Nat.le_of_ble_eq_true rfl) ?_
  change am_S E mX0_init 1 2 800 (.inl none) (am_Gk (vc_109 V) 112) (dc_109 D) 0 0 0 [(0, .ref 109)] [] (am_Gk V 110) D
  refine am_aload_n (am_dec tmX0_init 0 rfl) rfl rfl ?_
  refine am_objInit (am_dec tmX0_init 1 rfl) lmo_X0_3 lk_obi lk_obc (by decide) ?_
  refine am_aload_n (am_dec tmX0_init 2 rfl) rfl rfl ?_
  refine am_sipush (v := (600 : Int32)) (am_dec tmX0_init 3 rfl) (by decide) ?_
  refine am_newarrK (t := 0) (N := 600) hE (am_dec tmX0_init 4 rfl) rfl (Or.inl ⟨rfl, rfl⟩) lk_ai (by decide) (by decide) sh_110 hF0 (Nat.le_of_ble_eq_true rfl) (Nat.le_of_ble_eq_true rfl) ?_
  have hF1 : am_FR _ _ 111 := am_FR_le hF0 (Nat.le_of_ble_eq_true rfl)
  refine am_putRK (j := 0) hE (am_dec tmX0_init 5 rfl) sh_109 (by decide) cf0 (by decide) rfl lf_X0_9 (Or.inr ⟨rfl, rfl⟩) (fun _ => rfl) (fun _ => rfl) ?_
  have hF2 : am_FR _ _ 111 := am_FR_R (a := 109) (j := 0) (v := some 110) hF1 (Nat.le_of_ble_eq_true rfl)
  refine am_aload_n (am_dec tmX0_init 6 rfl) rfl rfl ?_
  refine am_sipush (v := (200 : Int32)) (am_dec tmX0_init 7 rfl) (by decide) ?_
  refine am_newarrK (t := 0) (N := 200) hE (am_dec tmX0_init 8 rfl) rfl (Or.inl ⟨rfl, rfl⟩) lk_ai (by decide) (by decide) sh_111 hF2 (Nat.le_of_ble_eq_true rfl) (Nat.le_of_ble_eq_true rfl) ?_
  have hF3 : am_FR _ _ 112 := am_FR_le hF2 (Nat.le_of_ble_eq_true rfl)
  refine am_putRK (j := 1) hE (am_dec tmX0_init 9 rfl) sh_109 (by decide) cf0 (by decide) rfl lf_X0_15 (Or.inr ⟨rfl, rfl⟩) (fun _ => rfl) (fun _ => rfl) ?_
  have hF4 : am_FR _ _ 112 := am_FR_R (a := 109) (j := 1) (v := some 111) hF3 (Nat.le_of_ble_eq_true rfl)
  exact am_vret (am_dec tmX0_init 10 rfl) rfl (Nat.le_of_ble_eq_true rfl) (Nat.le_of_ble_eq_true rfl)
def vc_112 (V : Nat → Nat → Option Nat) : Nat → Nat → Option Nat := am_up2 (V) 112 0 (some 113)
def dc_112 (D : am_D) : am_D := D
theorem fr_112 {V : Nat → Nat → Option Nat} {D : am_D} (hF0 : am_FR V D 113) : am_FR (vc_112 V) (dc_112 D) 114 := by
  have hF1 : am_FR _ _ 114 := am_FR_le hF0 (Nat.le_of_ble_eq_true rfl)
  have hF2 : am_FR _ _ 114 := am_FR_R (a := 112) (j := 0) (v := some 113) hF1 (Nat.le_of_ble_eq_true rfl)
  exact hF2
set_option maxRecDepth 100000 in
set_option maxHeartbeats 4000000 in
theorem ci_112 {E : am_E} (hE : am_EH E) (hA : am_AO E) {V : Nat → Nat → Option Nat} {D : am_D} (hF0 : am_FR V D 113) : am_C E mX2_init 1 1 300 [.ref 112] (am_Gk V 113) D (.inl none) (am_Gk (vc_112 V) 114) (dc_112 D) := by
  refine am_C_of (by decide +kernel) (Nat.le_of_ble_eq_true rfl) ?_
  change am_S E mX2_init 1 1 300 (.inl none) (am_Gk (vc_112 V) 114) (dc_112 D) 0 0 0 [(0, .ref 112)] [] (am_Gk V 113) D
  refine am_aload_n (am_dec tmX2_init 0 rfl) rfl rfl ?_
  refine am_objInit (am_dec tmX2_init 1 rfl) lmo_X2_3 lk_obi lk_obc (by decide) ?_
  refine am_aload_n (am_dec tmX2_init 2 rfl) rfl rfl ?_
  refine am_sipush (v := (300 : Int32)) (am_dec tmX2_init 3 rfl) (by decide) ?_
  refine am_newarrK (t := 0) (N := 300) hE (am_dec tmX2_init 4 rfl) rfl (Or.inl ⟨rfl, rfl⟩) lk_ai (by decide) (by decide) sh_113 hF0 (Nat.le_of_ble_eq_true rfl) (Nat.le_of_ble_eq_true rfl) ?_
  have hF1 : am_FR _ _ 114 := am_FR_le hF0 (Nat.le_of_ble_eq_true rfl)
  refine am_putRK (j := 0) hE (am_dec tmX2_init 5 rfl) sh_112 (by decide) cf2 (by decide) rfl lf_X2_9 (Or.inr ⟨rfl, rfl⟩) (fun _ => rfl) (fun _ => rfl) ?_
  have hF2 : am_FR _ _ 114 := am_FR_R (a := 112) (j := 0) (v := some 113) hF1 (Nat.le_of_ble_eq_true rfl)
  exact am_vret (am_dec tmX2_init 6 rfl) rfl (Nat.le_of_ble_eq_true rfl) (Nat.le_of_ble_eq_true rfl)
def vc_114 (V : Nat → Nat → Option Nat) : Nat → Nat → Option Nat := am_up2 (V) 114 0 (some 115)
def dc_114 (D : am_D) : am_D := D
theorem fr_114 {V : Nat → Nat → Option Nat} {D : am_D} (hF0 : am_FR V D 115) : am_FR (vc_114 V) (dc_114 D) 116 := by
  have hF1 : am_FR _ _ 116 := am_FR_le hF0 (Nat.le_of_ble_eq_true rfl)
  have hF2 : am_FR _ _ 116 := am_FR_R (a := 114) (j := 0) (v := some 115) hF1 (Nat.le_of_ble_eq_true rfl)
  exact hF2
set_option maxRecDepth 100000 in
set_option maxHeartbeats 4000000 in
theorem ci_114 {E : am_E} (hE : am_EH E) (hA : am_AO E) {V : Nat → Nat → Option Nat} {D : am_D} (hF0 : am_FR V D 115) : am_C E mX10_init 1 1 61 [.ref 114] (am_Gk V 115) D (.inl none) (am_Gk (vc_114 V) 116) (dc_114 D) := by
  refine am_C_of (by decide +kernel) (Nat.le_of_ble_eq_true rfl) ?_
  change am_S E mX10_init 1 1 61 (.inl none) (am_Gk (vc_114 V) 116) (dc_114 D) 0 0 0 [(0, .ref 114)] [] (am_Gk V 115) D
  refine am_aload_n (am_dec tmX10_init 0 rfl) rfl rfl ?_
  refine am_objInit (am_dec tmX10_init 1 rfl) lmo_X10_3 lk_obi lk_obc (by decide) ?_
  refine am_aload_n (am_dec tmX10_init 2 rfl) rfl rfl ?_
  refine am_bipush (v := (61 : Int32)) (am_dec tmX10_init 3 rfl) (by decide) ?_
  refine am_newarrK (t := 1) (N := 61) hE (am_dec tmX10_init 4 rfl) rfl (Or.inr ⟨rfl, rfl⟩) lk_al (by decide) (by decide) sh_115 hF0 (Nat.le_of_ble_eq_true rfl) (Nat.le_of_ble_eq_true rfl) ?_
  have hF1 : am_FR _ _ 116 := am_FR_le hF0 (Nat.le_of_ble_eq_true rfl)
  refine am_putRK (j := 0) hE (am_dec tmX10_init 5 rfl) sh_114 (by decide) cf10 (by decide) rfl lf_X10_9 (Or.inr ⟨rfl, rfl⟩) (fun _ => rfl) (fun _ => rfl) ?_
  have hF2 : am_FR _ _ 116 := am_FR_R (a := 114) (j := 0) (v := some 115) hF1 (Nat.le_of_ble_eq_true rfl)
  exact am_vret (am_dec tmX10_init 6 rfl) rfl (Nat.le_of_ble_eq_true rfl) (Nat.le_of_ble_eq_true rfl)
def vc_16 (V : Nat → Nat → Option Nat) : Nat → Nat → Option Nat := am_up2 (am_up2 (vc_114 (am_up2 (vc_112 (am_up2 (vc_109 (am_up2 (vc_106 (am_up2 (vc_103 (am_up2 (vc_101 (am_up2 (vc_91 (am_up2 (vc_81 (am_up2 (vc_71 (am_up2 (vc_69 (am_up2 (vc_66 (am_up2 (vc_63 (am_up2 (vc_60 (am_up2 (am_up2 (vc_17 (V)) 16 0 (some 17)) 16 1 (some 59))) 59 0 (some 60))) 59 1 (some 63))) 59 2 (some 66))) 16 3 (some 69))) 16 4 (some 71))) 16 5 (some 81))) 16 6 (some 91))) 16 7 (some 101))) 16 8 (some 103))) 16 9 (some 106))) 16 10 (some 109))) 16 11 (some 112))) 16 12 (some 114)) 16 13 (some 116)
def dc_16 (D : am_D) : am_D := dc_114 (dc_112 (dc_109 (dc_106 (dc_103 (dc_101 (dc_91 (dc_81 (dc_71 (dc_69 (dc_66 (dc_63 (dc_60 (dc_17 (D))))))))))))))
theorem fr_16 {V : Nat → Nat → Option Nat} {D : am_D} (hF0 : am_FR V D 17) : am_FR (vc_16 V) (dc_16 D) 117 := by
  have hF1 : am_FR _ _ 18 := am_FR_le hF0 (Nat.le_of_ble_eq_true rfl)
  have hF2 : am_FR _ _ 59 := fr_17 hF1
  have hF3 : am_FR _ _ 59 := am_FR_R (a := 16) (j := 0) (v := some 17) hF2 (Nat.le_of_ble_eq_true rfl)
  have hF4 : am_FR _ _ 60 := am_FR_le hF3 (Nat.le_of_ble_eq_true rfl)
  have hF5 : am_FR _ _ 60 := am_FR_R (a := 16) (j := 1) (v := some 59) hF4 (Nat.le_of_ble_eq_true rfl)
  have hF6 : am_FR _ _ 61 := am_FR_le hF5 (Nat.le_of_ble_eq_true rfl)
  have hF7 : am_FR _ _ 63 := fr_60 hF6
  have hF8 : am_FR _ _ 63 := am_FR_R (a := 59) (j := 0) (v := some 60) hF7 (Nat.le_of_ble_eq_true rfl)
  have hF9 : am_FR _ _ 64 := am_FR_le hF8 (Nat.le_of_ble_eq_true rfl)
  have hF10 : am_FR _ _ 66 := fr_63 hF9
  have hF11 : am_FR _ _ 66 := am_FR_R (a := 59) (j := 1) (v := some 63) hF10 (Nat.le_of_ble_eq_true rfl)
  have hF12 : am_FR _ _ 67 := am_FR_le hF11 (Nat.le_of_ble_eq_true rfl)
  have hF13 : am_FR _ _ 69 := fr_66 hF12
  have hF14 : am_FR _ _ 69 := am_FR_R (a := 59) (j := 2) (v := some 66) hF13 (Nat.le_of_ble_eq_true rfl)
  have hF15 : am_FR _ _ 70 := am_FR_le hF14 (Nat.le_of_ble_eq_true rfl)
  have hF16 : am_FR _ _ 71 := fr_69 hF15
  have hF17 : am_FR _ _ 71 := am_FR_R (a := 16) (j := 3) (v := some 69) hF16 (Nat.le_of_ble_eq_true rfl)
  have hF18 : am_FR _ _ 72 := am_FR_le hF17 (Nat.le_of_ble_eq_true rfl)
  have hF19 : am_FR _ _ 81 := fr_71 hF18
  have hF20 : am_FR _ _ 81 := am_FR_R (a := 16) (j := 4) (v := some 71) hF19 (Nat.le_of_ble_eq_true rfl)
  have hF21 : am_FR _ _ 82 := am_FR_le hF20 (Nat.le_of_ble_eq_true rfl)
  have hF22 : am_FR _ _ 91 := fr_81 hF21
  have hF23 : am_FR _ _ 91 := am_FR_R (a := 16) (j := 5) (v := some 81) hF22 (Nat.le_of_ble_eq_true rfl)
  have hF24 : am_FR _ _ 92 := am_FR_le hF23 (Nat.le_of_ble_eq_true rfl)
  have hF25 : am_FR _ _ 101 := fr_91 hF24
  have hF26 : am_FR _ _ 101 := am_FR_R (a := 16) (j := 6) (v := some 91) hF25 (Nat.le_of_ble_eq_true rfl)
  have hF27 : am_FR _ _ 102 := am_FR_le hF26 (Nat.le_of_ble_eq_true rfl)
  have hF28 : am_FR _ _ 103 := fr_101 hF27
  have hF29 : am_FR _ _ 103 := am_FR_R (a := 16) (j := 7) (v := some 101) hF28 (Nat.le_of_ble_eq_true rfl)
  have hF30 : am_FR _ _ 104 := am_FR_le hF29 (Nat.le_of_ble_eq_true rfl)
  have hF31 : am_FR _ _ 106 := fr_103 hF30
  have hF32 : am_FR _ _ 106 := am_FR_R (a := 16) (j := 8) (v := some 103) hF31 (Nat.le_of_ble_eq_true rfl)
  have hF33 : am_FR _ _ 107 := am_FR_le hF32 (Nat.le_of_ble_eq_true rfl)
  have hF34 : am_FR _ _ 109 := fr_106 hF33
  have hF35 : am_FR _ _ 109 := am_FR_R (a := 16) (j := 9) (v := some 106) hF34 (Nat.le_of_ble_eq_true rfl)
  have hF36 : am_FR _ _ 110 := am_FR_le hF35 (Nat.le_of_ble_eq_true rfl)
  have hF37 : am_FR _ _ 112 := fr_109 hF36
  have hF38 : am_FR _ _ 112 := am_FR_R (a := 16) (j := 10) (v := some 109) hF37 (Nat.le_of_ble_eq_true rfl)
  have hF39 : am_FR _ _ 113 := am_FR_le hF38 (Nat.le_of_ble_eq_true rfl)
  have hF40 : am_FR _ _ 114 := fr_112 hF39
  have hF41 : am_FR _ _ 114 := am_FR_R (a := 16) (j := 11) (v := some 112) hF40 (Nat.le_of_ble_eq_true rfl)
  have hF42 : am_FR _ _ 115 := am_FR_le hF41 (Nat.le_of_ble_eq_true rfl)
  have hF43 : am_FR _ _ 116 := fr_114 hF42
  have hF44 : am_FR _ _ 116 := am_FR_R (a := 16) (j := 12) (v := some 114) hF43 (Nat.le_of_ble_eq_true rfl)
  have hF45 : am_FR _ _ 117 := am_FR_le hF44 (Nat.le_of_ble_eq_true rfl)
  have hF46 : am_FR _ _ 117 := am_FR_R (a := 16) (j := 13) (v := some 116) hF45 (Nat.le_of_ble_eq_true rfl)
  exact hF46
set_option maxRecDepth 100000 in
set_option maxHeartbeats 4000000 in
theorem ci_16 {E : am_E} (hE : am_EH E) (hA : am_AO E) {V : Nat → Nat → Option Nat} {D : am_D} (hF0 : am_FR V D 17) : am_C E mX11_init 3 100 17143 [.ref 16] (am_Gk V 17) D (.inl none) (am_Gk (vc_16 V) 117) (dc_16 D) := by
  refine am_C_of (by decide +kernel) (Nat.le_of_ble_eq_true rfl) ?_
  change am_S E mX11_init 3 100 17143 (.inl none) (am_Gk (vc_16 V) 117) (dc_16 D) 0 0 0 [(0, .ref 16)] [] (am_Gk V 17) D
  refine am_aload_n (am_dec tmX11_init_0 0 rfl) rfl rfl ?_
  refine am_objInit (am_dec tmX11_init_0 1 rfl) lmo_X11_1 lk_obi lk_obc (by decide) ?_
  refine am_aload_n (am_dec tmX11_init_0 2 rfl) rfl rfl ?_
  refine am_newK hE (am_dec tmX11_init_0 3 rfl) cf1 lck_X11_7 lk_ins_X1 lk_ini_X1 sh_17 hF0 dv_X1 (Nat.le_of_ble_eq_true rfl) (Nat.le_of_ble_eq_true rfl) ?_
  have hF1 : am_FR _ _ 18 := am_FR_le hF0 (Nat.le_of_ble_eq_true rfl)
  refine am_dup (am_dec tmX11_init_0 4 rfl) rfl ?_
  refine am_callI (As := []) (st := [.ref 17, .ref 16]) (am_dec tmX11_init_0 5 rfl) ok_X1_init rfl rfl rfl lm_X11_9 in_X1_init (ci_17 hE hA hF1) rfl (by decide) (by decide) (Nat.le_of_ble_eq_true rfl) (Nat.le_of_ble_eq_true rfl) rfl ?_
  have hF2 : am_FR _ _ 59 := fr_17 hF1
  refine am_putRK (j := 0) hE (am_dec tmX11_init_0 6 rfl) sh_16 (by decide) cf11 (by decide) rfl lf_X11_10 (Or.inr ⟨rfl, rfl⟩) (fun _ => rfl) (fun _ => rfl) ?_
  have hF3 : am_FR _ _ 59 := am_FR_R (a := 16) (j := 0) (v := some 17) hF2 (Nat.le_of_ble_eq_true rfl)
  refine am_aload_n (am_dec tmX11_init_0 7 rfl) rfl rfl ?_
  refine am_iconst (v := (3 : Int32)) (am_dec tmX11_init_0 8 rfl) (by decide) ?_
  refine am_anewK (t := 5) (N := 3) hE hA (am_dec tmX11_init_0 9 rfl) (by decide) rfl lck_X11_16 (by decide) (by decide) (by decide) sh_59 hF3 (Nat.le_of_ble_eq_true rfl) (Nat.le_of_ble_eq_true rfl) ?_
  have hF4 : am_FR _ _ 60 := am_FR_le hF3 (Nat.le_of_ble_eq_true rfl)
  refine am_putRK (j := 1) hE (am_dec tmX11_init_0 10 rfl) sh_16 (by decide) cf11 (by decide) rfl lf_X11_18 (Or.inr ⟨rfl, rfl⟩) (fun _ => rfl) (fun _ => rfl) ?_
  have hF5 : am_FR _ _ 60 := am_FR_R (a := 16) (j := 1) (v := some 59) hF4 (Nat.le_of_ble_eq_true rfl)
  refine am_iconst (v := (0 : Int32)) (am_dec tmX11_init_0 11 rfl) (by decide) ?_
  refine am_istore_n (lv' := [(0, .ref 16), (1, .int (0 : Int32))]) (am_dec tmX11_init_0 12 rfl) rfl (by decide) rfl ?_
  refine am_iload_n (am_dec tmX11_init_0 13 rfl) rfl rfl ?_
  refine am_iconst (v := (3 : Int32)) (am_dec tmX11_init_0 14 rfl) (by decide) ?_
  refine am_icmp_ge (tgt := 49) (am_dec tmX11_init_0 15 rfl) (by decide) (fun h => absurd h (by decide)) (fun _ => ?_)
  refine am_aload_n (am_dec tmX11_init_0 16 rfl) rfl rfl ?_
  refine am_getRK (r := 59) (j := 1) hE (am_dec tmX11_init_0 17 rfl) sh_16 (by decide) cf11 (by decide) rfl lf_X11_18 rfl ?_
  refine am_iload_n (am_dec tmX11_init_0 18 rfl) rfl rfl ?_
  refine am_newK hE (am_dec tmX11_init_0 19 rfl) cf4 lck_X11_16 lk_ins_X4 lk_ini_X4 sh_60 hF5 dv_X4 (Nat.le_of_ble_eq_true rfl) (Nat.le_of_ble_eq_true rfl) ?_
  have hF6 : am_FR _ _ 61 := am_FR_le hF5 (Nat.le_of_ble_eq_true rfl)
  refine am_dup (am_dec tmX11_init_0 20 rfl) rfl ?_
  refine am_callI (As := []) (st := [.ref 60, .int (0 : Int32), .ref 59]) (am_dec tmX11_init_0 21 rfl) ok_X4_init rfl rfl rfl lm_X11_22 in_X4_init (ci_60 hE hA hF6) rfl (by decide) (by decide) (Nat.le_of_ble_eq_true rfl) (Nat.le_of_ble_eq_true rfl) rfl ?_
  have hF7 : am_FR _ _ 63 := fr_60 hF6
  refine am_aastK (t := 5) (j := 0) hE (am_dec tmX11_init_0 22 rfl) sh_59 (by decide) (by decide) rfl sh_60 (by decide) cf4 (by decide) (by decide) (by decide) ?_
  have hF8 : am_FR _ _ 63 := am_FR_R (a := 59) (j := 0) (v := some 60) hF7 (Nat.le_of_ble_eq_true rfl)
  refine am_iinc (v := (1 : Int32)) (lv' := [(0, .ref 16), (1, .int (1 : Int32))]) (am_dec tmX11_init_0 23 rfl) rfl (by decide) (by decide) rfl ?_
  refine am_goto (tgt := 25) (am_dec tmX11_init_0 24 rfl) (by decide) ?_
  refine am_iload_n (am_dec tmX11_init_0 13 rfl) rfl rfl ?_
  refine am_iconst (v := (3 : Int32)) (am_dec tmX11_init_0 14 rfl) (by decide) ?_
  refine am_icmp_ge (tgt := 49) (am_dec tmX11_init_0 15 rfl) (by decide) (fun h => absurd h (by decide)) (fun _ => ?_)
  refine am_aload_n (am_dec tmX11_init_0 16 rfl) rfl rfl ?_
  refine am_getRK (r := 59) (j := 1) hE (am_dec tmX11_init_0 17 rfl) sh_16 (by decide) cf11 (by decide) rfl lf_X11_18 rfl ?_
  refine am_iload_n (am_dec tmX11_init_0 18 rfl) rfl rfl ?_
  refine am_newK hE (am_dec tmX11_init_0 19 rfl) cf4 lck_X11_16 lk_ins_X4 lk_ini_X4 sh_63 hF8 dv_X4 (Nat.le_of_ble_eq_true rfl) (Nat.le_of_ble_eq_true rfl) ?_
  have hF9 : am_FR _ _ 64 := am_FR_le hF8 (Nat.le_of_ble_eq_true rfl)
  refine am_dup (am_dec tmX11_init_0 20 rfl) rfl ?_
  refine am_callI (As := []) (st := [.ref 63, .int (1 : Int32), .ref 59]) (am_dec tmX11_init_0 21 rfl) ok_X4_init rfl rfl rfl lm_X11_22 in_X4_init (ci_63 hE hA hF9) rfl (by decide) (by decide) (Nat.le_of_ble_eq_true rfl) (Nat.le_of_ble_eq_true rfl) rfl ?_
  have hF10 : am_FR _ _ 66 := fr_63 hF9
  refine am_aastK (t := 5) (j := 1) hE (am_dec tmX11_init_0 22 rfl) sh_59 (by decide) (by decide) rfl sh_63 (by decide) cf4 (by decide) (by decide) (by decide) ?_
  have hF11 : am_FR _ _ 66 := am_FR_R (a := 59) (j := 1) (v := some 63) hF10 (Nat.le_of_ble_eq_true rfl)
  refine am_iinc (v := (1 : Int32)) (lv' := [(0, .ref 16), (1, .int (2 : Int32))]) (am_dec tmX11_init_0 23 rfl) rfl (by decide) (by decide) rfl ?_
  refine am_goto (tgt := 25) (am_dec tmX11_init_0 24 rfl) (by decide) ?_
  refine am_iload_n (am_dec tmX11_init_0 13 rfl) rfl rfl ?_
  refine am_iconst (v := (3 : Int32)) (am_dec tmX11_init_0 14 rfl) (by decide) ?_
  refine am_icmp_ge (tgt := 49) (am_dec tmX11_init_0 15 rfl) (by decide) (fun h => absurd h (by decide)) (fun _ => ?_)
  refine am_aload_n (am_dec tmX11_init_0 16 rfl) rfl rfl ?_
  refine am_getRK (r := 59) (j := 1) hE (am_dec tmX11_init_0 17 rfl) sh_16 (by decide) cf11 (by decide) rfl lf_X11_18 rfl ?_
  refine am_iload_n (am_dec tmX11_init_0 18 rfl) rfl rfl ?_
  refine am_newK hE (am_dec tmX11_init_0 19 rfl) cf4 lck_X11_16 lk_ins_X4 lk_ini_X4 sh_66 hF11 dv_X4 (Nat.le_of_ble_eq_true rfl) (Nat.le_of_ble_eq_true rfl) ?_
  have hF12 : am_FR _ _ 67 := am_FR_le hF11 (Nat.le_of_ble_eq_true rfl)
  refine am_dup (am_dec tmX11_init_0 20 rfl) rfl ?_
  refine am_callI (As := []) (st := [.ref 66, .int (2 : Int32), .ref 59]) (am_dec tmX11_init_0 21 rfl) ok_X4_init rfl rfl rfl lm_X11_22 in_X4_init (ci_66 hE hA hF12) rfl (by decide) (by decide) (Nat.le_of_ble_eq_true rfl) (Nat.le_of_ble_eq_true rfl) rfl ?_
  have hF13 : am_FR _ _ 69 := fr_66 hF12
  refine am_aastK (t := 5) (j := 2) hE (am_dec tmX11_init_0 22 rfl) sh_59 (by decide) (by decide) rfl sh_66 (by decide) cf4 (by decide) (by decide) (by decide) ?_
  have hF14 : am_FR _ _ 69 := am_FR_R (a := 59) (j := 2) (v := some 66) hF13 (Nat.le_of_ble_eq_true rfl)
  refine am_iinc (v := (1 : Int32)) (lv' := [(0, .ref 16), (1, .int (3 : Int32))]) (am_dec tmX11_init_0 23 rfl) rfl (by decide) (by decide) rfl ?_
  refine am_goto (tgt := 25) (am_dec tmX11_init_0 24 rfl) (by decide) ?_
  refine am_iload_n (am_dec tmX11_init_0 13 rfl) rfl rfl ?_
  refine am_iconst (v := (3 : Int32)) (am_dec tmX11_init_0 14 rfl) (by decide) ?_
  refine am_icmp_ge (tgt := 49) (am_dec tmX11_init_0 15 rfl) (by decide) (fun _ => ?_) (fun h => absurd (by decide) h)
  refine am_aload_n (am_dec tmX11_init_0 25 rfl) rfl rfl ?_
  refine am_newK hE (am_dec tmX11_init_0 26 rfl) cf8 lck_X11_23 lk_ins_X8 lk_ini_X8 sh_69 hF14 dv_X8 (Nat.le_of_ble_eq_true rfl) (Nat.le_of_ble_eq_true rfl) ?_
  have hF15 : am_FR _ _ 70 := am_FR_le hF14 (Nat.le_of_ble_eq_true rfl)
  refine am_dup (am_dec tmX11_init_0 27 rfl) rfl ?_
  refine am_callI (As := []) (st := [.ref 69, .ref 16]) (am_dec tmX11_init_0 28 rfl) ok_X8_init rfl rfl rfl lm_X11_25 in_X8_init (ci_69 hE hA hF15) rfl (by decide) (by decide) (Nat.le_of_ble_eq_true rfl) (Nat.le_of_ble_eq_true rfl) rfl ?_
  have hF16 : am_FR _ _ 71 := fr_69 hF15
  refine am_putRK (j := 3) hE (am_dec tmX11_init_0 29 rfl) sh_16 (by decide) cf11 (by decide) rfl lf_X11_26 (Or.inr ⟨rfl, rfl⟩) (fun _ => rfl) (fun _ => rfl) ?_
  have hF17 : am_FR _ _ 71 := am_FR_R (a := 16) (j := 3) (v := some 69) hF16 (Nat.le_of_ble_eq_true rfl)
  refine am_aload_n (am_dec tmX11_init_0 30 rfl) rfl rfl ?_
  refine am_newK hE (am_dec tmX11_init_0 31 rfl) cf3 lck_X11_30 lk_ins_X3 lk_ini_X3 sh_71 hF17 dv_X3 (Nat.le_of_ble_eq_true rfl) (Nat.le_of_ble_eq_true rfl) ?_
  have hF18 : am_FR _ _ 72 := am_FR_le hF17 (Nat.le_of_ble_eq_true rfl)
  refine am_dup (am_dec tmX11_init_0 32 rfl) rfl ?_
  refine am_callI (As := []) (st := [.ref 71, .ref 16]) (am_dec tmX11_init_0 33 rfl) ok_X3_init rfl rfl rfl lm_X11_32 in_X3_init (ci_71 hE hA hF18) rfl (by decide) (by decide) (Nat.le_of_ble_eq_true rfl) (Nat.le_of_ble_eq_true rfl) rfl ?_
  have hF19 : am_FR _ _ 81 := fr_71 hF18
  refine am_putRK (j := 4) hE (am_dec tmX11_init_0 34 rfl) sh_16 (by decide) cf11 (by decide) rfl lf_X11_33 (Or.inr ⟨rfl, rfl⟩) (fun _ => rfl) (fun _ => rfl) ?_
  have hF20 : am_FR _ _ 81 := am_FR_R (a := 16) (j := 4) (v := some 71) hF19 (Nat.le_of_ble_eq_true rfl)
  refine am_aload_n (am_dec tmX11_init_0 35 rfl) rfl rfl ?_
  refine am_newK hE (am_dec tmX11_init_0 36 rfl) cf3 lck_X11_30 lk_ins_X3 lk_ini_X3 sh_81 hF20 dv_X3 (Nat.le_of_ble_eq_true rfl) (Nat.le_of_ble_eq_true rfl) ?_
  have hF21 : am_FR _ _ 82 := am_FR_le hF20 (Nat.le_of_ble_eq_true rfl)
  refine am_dup (am_dec tmX11_init_0 37 rfl) rfl ?_
  refine am_callI (As := []) (st := [.ref 81, .ref 16]) (am_dec tmX11_init_0 38 rfl) ok_X3_init rfl rfl rfl lm_X11_32 in_X3_init (ci_81 hE hA hF21) rfl (by decide) (by decide) (Nat.le_of_ble_eq_true rfl) (Nat.le_of_ble_eq_true rfl) rfl ?_
  have hF22 : am_FR _ _ 91 := fr_81 hF21
  refine am_putRK (j := 5) hE (am_dec tmX11_init_0 39 rfl) sh_16 (by decide) cf11 (by decide) rfl lf_X11_37 (Or.inr ⟨rfl, rfl⟩) (fun _ => rfl) (fun _ => rfl) ?_
  have hF23 : am_FR _ _ 91 := am_FR_R (a := 16) (j := 5) (v := some 81) hF22 (Nat.le_of_ble_eq_true rfl)
  refine am_aload_n (am_dec tmX11_init_0 40 rfl) rfl rfl ?_
  refine am_newK hE (am_dec tmX11_init_0 41 rfl) cf3 lck_X11_30 lk_ins_X3 lk_ini_X3 sh_91 hF23 dv_X3 (Nat.le_of_ble_eq_true rfl) (Nat.le_of_ble_eq_true rfl) ?_
  have hF24 : am_FR _ _ 92 := am_FR_le hF23 (Nat.le_of_ble_eq_true rfl)
  refine am_dup (am_dec tmX11_init_0 42 rfl) rfl ?_
  refine am_callI (As := []) (st := [.ref 91, .ref 16]) (am_dec tmX11_init_0 43 rfl) ok_X3_init rfl rfl rfl lm_X11_32 in_X3_init (ci_91 hE hA hF24) rfl (by decide) (by decide) (Nat.le_of_ble_eq_true rfl) (Nat.le_of_ble_eq_true rfl) rfl ?_
  have hF25 : am_FR _ _ 101 := fr_91 hF24
  refine am_putRK (j := 6) hE (am_dec tmX11_init_0 44 rfl) sh_16 (by decide) cf11 (by decide) rfl lf_X11_40 (Or.inr ⟨rfl, rfl⟩) (fun _ => rfl) (fun _ => rfl) ?_
  have hF26 : am_FR _ _ 101 := am_FR_R (a := 16) (j := 6) (v := some 91) hF25 (Nat.le_of_ble_eq_true rfl)
  refine am_aload_n (am_dec tmX11_init_0 45 rfl) rfl rfl ?_
  refine am_newK hE (am_dec tmX11_init_0 46 rfl) cf7 lck_X11_43 lk_ins_X7 lk_ini_X7 sh_101 hF26 dv_X7 (Nat.le_of_ble_eq_true rfl) (Nat.le_of_ble_eq_true rfl) ?_
  have hF27 : am_FR _ _ 102 := am_FR_le hF26 (Nat.le_of_ble_eq_true rfl)
  refine am_dup (am_dec tmX11_init_0 47 rfl) rfl ?_
  refine am_sipush (v := (600 : Int32)) (am_dec tmX11_init_0 48 rfl) (by decide) ?_
  refine am_callI (As := [.int (600 : Int32)]) (st := [.ref 101, .ref 16]) (am_dec tmX11_init_0 49 rfl) ok_X7_init rfl rfl rfl lm_X11_45 in_X7_init (ci_101 hE hA hF27) rfl (by decide) (by decide) (Nat.le_of_ble_eq_true rfl) (Nat.le_of_ble_eq_true rfl) rfl ?_
  have hF28 : am_FR _ _ 103 := fr_101 hF27
  refine am_putRK (j := 7) hE (am_dec tmX11_init_0 50 rfl) sh_16 (by decide) cf11 (by decide) rfl lf_X11_48 (Or.inr ⟨rfl, rfl⟩) (fun _ => rfl) (fun _ => rfl) ?_
  have hF29 : am_FR _ _ 103 := am_FR_R (a := 16) (j := 7) (v := some 101) hF28 (Nat.le_of_ble_eq_true rfl)
  refine am_aload_n (am_dec tmX11_init_0 51 rfl) rfl rfl ?_
  refine am_newK hE (am_dec tmX11_init_0 52 rfl) cf9 lck_X11_52 lk_ins_X9 lk_ini_X9 sh_103 hF29 dv_X9 (Nat.le_of_ble_eq_true rfl) (Nat.le_of_ble_eq_true rfl) ?_
  have hF30 : am_FR _ _ 104 := am_FR_le hF29 (Nat.le_of_ble_eq_true rfl)
  refine am_dup (am_dec tmX11_init_0 53 rfl) rfl ?_
  refine am_callI (As := []) (st := [.ref 103, .ref 16]) (am_dec tmX11_init_0 54 rfl) ok_X9_init rfl rfl rfl lm_X11_54 in_X9_init (ci_103 hE hA hF30) rfl (by decide) (by decide) (Nat.le_of_ble_eq_true rfl) (Nat.le_of_ble_eq_true rfl) rfl ?_
  have hF31 : am_FR _ _ 106 := fr_103 hF30
  refine am_putRK (j := 8) hE (am_dec tmX11_init_0 55 rfl) sh_16 (by decide) cf11 (by decide) rfl lf_X11_55 (Or.inr ⟨rfl, rfl⟩) (fun _ => rfl) (fun _ => rfl) ?_
  have hF32 : am_FR _ _ 106 := am_FR_R (a := 16) (j := 8) (v := some 103) hF31 (Nat.le_of_ble_eq_true rfl)
  refine am_aload_n (am_dec tmX11_init_0 56 rfl) rfl rfl ?_
  refine am_newK hE (am_dec tmX11_init_0 57 rfl) cf0 lck_X11_59 lk_ins_X0 lk_ini_X0 sh_106 hF32 dv_X0 (Nat.le_of_ble_eq_true rfl) (Nat.le_of_ble_eq_true rfl) ?_
  have hF33 : am_FR _ _ 107 := am_FR_le hF32 (Nat.le_of_ble_eq_true rfl)
  refine am_dup (am_dec tmX11_init_0 58 rfl) rfl ?_
  refine am_callI (As := []) (st := [.ref 106, .ref 16]) (am_dec tmX11_init_0 59 rfl) ok_X0_init rfl rfl rfl lm_X11_61 in_X0_init (ci_106 hE hA hF33) rfl (by decide) (by decide) (Nat.le_of_ble_eq_true rfl) (Nat.le_of_ble_eq_true rfl) rfl ?_
  have hF34 : am_FR _ _ 109 := fr_106 hF33
  refine am_putRK (j := 9) hE (am_dec tmX11_init_1 0 rfl) sh_16 (by decide) cf11 (by decide) rfl lf_X11_62 (Or.inr ⟨rfl, rfl⟩) (fun _ => rfl) (fun _ => rfl) ?_
  have hF35 : am_FR _ _ 109 := am_FR_R (a := 16) (j := 9) (v := some 106) hF34 (Nat.le_of_ble_eq_true rfl)
  refine am_aload_n (am_dec tmX11_init_1 1 rfl) rfl rfl ?_
  refine am_newK hE (am_dec tmX11_init_1 2 rfl) cf0 lck_X11_59 lk_ins_X0 lk_ini_X0 sh_109 hF35 dv_X0 (Nat.le_of_ble_eq_true rfl) (Nat.le_of_ble_eq_true rfl) ?_
  have hF36 : am_FR _ _ 110 := am_FR_le hF35 (Nat.le_of_ble_eq_true rfl)
  refine am_dup (am_dec tmX11_init_1 3 rfl) rfl ?_
  refine am_callI (As := []) (st := [.ref 109, .ref 16]) (am_dec tmX11_init_1 4 rfl) ok_X0_init rfl rfl rfl lm_X11_61 in_X0_init (ci_109 hE hA hF36) rfl (by decide) (by decide) (Nat.le_of_ble_eq_true rfl) (Nat.le_of_ble_eq_true rfl) rfl ?_
  have hF37 : am_FR _ _ 112 := fr_109 hF36
  refine am_putRK (j := 10) hE (am_dec tmX11_init_1 5 rfl) sh_16 (by decide) cf11 (by decide) rfl lf_X11_66 (Or.inr ⟨rfl, rfl⟩) (fun _ => rfl) (fun _ => rfl) ?_
  have hF38 : am_FR _ _ 112 := am_FR_R (a := 16) (j := 10) (v := some 109) hF37 (Nat.le_of_ble_eq_true rfl)
  refine am_aload_n (am_dec tmX11_init_1 6 rfl) rfl rfl ?_
  refine am_newK hE (am_dec tmX11_init_1 7 rfl) cf2 lck_X11_69 lk_ins_X2 lk_ini_X2 sh_112 hF38 dv_X2 (Nat.le_of_ble_eq_true rfl) (Nat.le_of_ble_eq_true rfl) ?_
  have hF39 : am_FR _ _ 113 := am_FR_le hF38 (Nat.le_of_ble_eq_true rfl)
  refine am_dup (am_dec tmX11_init_1 8 rfl) rfl ?_
  refine am_callI (As := []) (st := [.ref 112, .ref 16]) (am_dec tmX11_init_1 9 rfl) ok_X2_init rfl rfl rfl lm_X11_71 in_X2_init (ci_112 hE hA hF39) rfl (by decide) (by decide) (Nat.le_of_ble_eq_true rfl) (Nat.le_of_ble_eq_true rfl) rfl ?_
  have hF40 : am_FR _ _ 114 := fr_112 hF39
  refine am_putRK (j := 11) hE (am_dec tmX11_init_1 10 rfl) sh_16 (by decide) cf11 (by decide) rfl lf_X11_72 (Or.inr ⟨rfl, rfl⟩) (fun _ => rfl) (fun _ => rfl) ?_
  have hF41 : am_FR _ _ 114 := am_FR_R (a := 16) (j := 11) (v := some 112) hF40 (Nat.le_of_ble_eq_true rfl)
  refine am_aload_n (am_dec tmX11_init_1 11 rfl) rfl rfl ?_
  refine am_newK hE (am_dec tmX11_init_1 12 rfl) cf10 lck_X11_76 lk_ins_X10 lk_ini_X10 sh_114 hF41 dv_X10 (Nat.le_of_ble_eq_true rfl) (Nat.le_of_ble_eq_true rfl) ?_
  have hF42 : am_FR _ _ 115 := am_FR_le hF41 (Nat.le_of_ble_eq_true rfl)
  refine am_dup (am_dec tmX11_init_1 13 rfl) rfl ?_
  refine am_callI (As := []) (st := [.ref 114, .ref 16]) (am_dec tmX11_init_1 14 rfl) ok_X10_init rfl rfl rfl lm_X11_78 in_X10_init (ci_114 hE hA hF42) rfl (by decide) (by decide) (Nat.le_of_ble_eq_true rfl) (Nat.le_of_ble_eq_true rfl) rfl ?_
  have hF43 : am_FR _ _ 116 := fr_114 hF42
  refine am_putRK (j := 12) hE (am_dec tmX11_init_1 15 rfl) sh_16 (by decide) cf11 (by decide) rfl lf_X11_79 (Or.inr ⟨rfl, rfl⟩) (fun _ => rfl) (fun _ => rfl) ?_
  have hF44 : am_FR _ _ 116 := am_FR_R (a := 16) (j := 12) (v := some 114) hF43 (Nat.le_of_ble_eq_true rfl)
  refine am_aload_n (am_dec tmX11_init_1 16 rfl) rfl rfl ?_
  refine am_iconst (v := (3 : Int32)) (am_dec tmX11_init_1 17 rfl) (by decide) ?_
  refine am_newarrK (t := 0) (N := 3) hE (am_dec tmX11_init_1 18 rfl) rfl (Or.inl ⟨rfl, rfl⟩) lk_ai (by decide) (by decide) sh_116 hF44 (Nat.le_of_ble_eq_true rfl) (Nat.le_of_ble_eq_true rfl) ?_
  have hF45 : am_FR _ _ 117 := am_FR_le hF44 (Nat.le_of_ble_eq_true rfl)
  refine am_putRK (j := 13) hE (am_dec tmX11_init_1 19 rfl) sh_16 (by decide) cf11 (by decide) rfl lf_X11_83 (Or.inr ⟨rfl, rfl⟩) (fun _ => rfl) (fun _ => rfl) ?_
  have hF46 : am_FR _ _ 117 := am_FR_R (a := 16) (j := 13) (v := some 116) hF45 (Nat.le_of_ble_eq_true rfl)
  exact am_vret (am_dec tmX11_init_1 20 rfl) rfl (Nat.le_of_ble_eq_true rfl) (Nat.le_of_ble_eq_true rfl)
def vc_117 (V : Nat → Nat → Option Nat) : Nat → Nat → Option Nat := am_up2 (am_upM (am_up2 (am_up2 (am_up2 (am_up2 (am_up2 (am_upM (am_up2 (am_up2 (am_up2 (am_up2 (am_upM (am_up2 (am_up2 (am_up2 (am_up2 (am_upM (am_up2 (am_upM (am_up2 (am_up2 (am_up2 (am_up2 (am_up2 (am_upM (am_up2 (am_up2 (am_upM (am_up2 (am_upM (am_up2 (am_up2 (V) 117 9 (some 118)) 117 10 (some 119)) 120 12) 117 11 (some 120)) 133 5) 117 24 (some 133)) 117 25 (some 139)) 140 60) 117 26 (some 140)) 117 27 (some 201)) 117 28 (some 202)) 117 29 (some 203)) 117 30 (some 204)) 205 4) 117 31 (some 205)) 210 10) 117 32 (some 210)) 117 33 (some 221)) 117 34 (some 222)) 117 35 (some 223)) 224 1200) 117 41 (some 224)) 117 42 (some 1425)) 117 43 (some 1426)) 117 44 (some 1427)) 1428 1200) 117 45 (some 1428)) 117 51 (some 2629)) 117 52 (some 2630)) 117 53 (some 2631)) 117 54 (some 2632)) 2633 3) 117 55 (some 2633)
def dc_117 (D : am_D) : am_D := am_wI (am_wI (am_wI (am_wI (am_wI (am_wI (am_wI (am_wI (am_wI (am_wI (am_wI (D) 117 3 (-1 : Int32)) 117 14 (16 : Int32)) 117 15 (4 : Int32)) 117 16 (3 : Int32)) 117 17 (200 : Int32)) 117 18 (3 : Int32)) 117 19 (8 : Int32)) 202 0 (1 : Int32)) 202 1 (100 : Int32)) 202 2 (500 : Int32)) 202 3 (1 : Int32)
theorem fr_117 {V : Nat → Nat → Option Nat} {D : am_D} (hF0 : am_FR V D 118) : am_FR (vc_117 V) (dc_117 D) 2637 := by
  have hF1 : am_FR _ _ 118 := am_FR_I (a := 117) (j := 3) (v := (-1 : Int32)) hF0 (Nat.le_of_ble_eq_true rfl)
  have hF2 : am_FR _ _ 119 := am_FR_le hF1 (Nat.le_of_ble_eq_true rfl)
  have hF3 : am_FR _ _ 119 := am_FR_R (a := 117) (j := 9) (v := some 118) hF2 (Nat.le_of_ble_eq_true rfl)
  have hF4 : am_FR _ _ 120 := am_FR_le hF3 (Nat.le_of_ble_eq_true rfl)
  have hF5 : am_FR _ _ 120 := am_FR_R (a := 117) (j := 10) (v := some 119) hF4 (Nat.le_of_ble_eq_true rfl)
  have hF6 : am_FR _ _ 133 := am_FR_M (b := 120) (N := 12) hF5
  have hF7 : am_FR _ _ 133 := am_FR_R (a := 117) (j := 11) (v := some 120) hF6 (Nat.le_of_ble_eq_true rfl)
  have hF8 : am_FR _ _ 133 := am_FR_I (a := 117) (j := 14) (v := (16 : Int32)) hF7 (Nat.le_of_ble_eq_true rfl)
  have hF9 : am_FR _ _ 133 := am_FR_I (a := 117) (j := 15) (v := (4 : Int32)) hF8 (Nat.le_of_ble_eq_true rfl)
  have hF10 : am_FR _ _ 133 := am_FR_I (a := 117) (j := 16) (v := (3 : Int32)) hF9 (Nat.le_of_ble_eq_true rfl)
  have hF11 : am_FR _ _ 133 := am_FR_I (a := 117) (j := 17) (v := (200 : Int32)) hF10 (Nat.le_of_ble_eq_true rfl)
  have hF12 : am_FR _ _ 133 := am_FR_I (a := 117) (j := 18) (v := (3 : Int32)) hF11 (Nat.le_of_ble_eq_true rfl)
  have hF13 : am_FR _ _ 133 := am_FR_I (a := 117) (j := 19) (v := (8 : Int32)) hF12 (Nat.le_of_ble_eq_true rfl)
  have hF14 : am_FR _ _ 139 := am_FR_M (b := 133) (N := 5) hF13
  have hF15 : am_FR _ _ 139 := am_FR_R (a := 117) (j := 24) (v := some 133) hF14 (Nat.le_of_ble_eq_true rfl)
  have hF16 : am_FR _ _ 140 := am_FR_le hF15 (Nat.le_of_ble_eq_true rfl)
  have hF17 : am_FR _ _ 140 := am_FR_R (a := 117) (j := 25) (v := some 139) hF16 (Nat.le_of_ble_eq_true rfl)
  have hF18 : am_FR _ _ 201 := am_FR_M (b := 140) (N := 60) hF17
  have hF19 : am_FR _ _ 201 := am_FR_R (a := 117) (j := 26) (v := some 140) hF18 (Nat.le_of_ble_eq_true rfl)
  have hF20 : am_FR _ _ 202 := am_FR_le hF19 (Nat.le_of_ble_eq_true rfl)
  have hF21 : am_FR _ _ 202 := am_FR_R (a := 117) (j := 27) (v := some 201) hF20 (Nat.le_of_ble_eq_true rfl)
  have hF22 : am_FR _ _ 203 := am_FR_le hF21 (Nat.le_of_ble_eq_true rfl)
  have hF23 : am_FR _ _ 203 := am_FR_I (a := 202) (j := 0) (v := (1 : Int32)) hF22 (Nat.le_of_ble_eq_true rfl)
  have hF24 : am_FR _ _ 203 := am_FR_I (a := 202) (j := 1) (v := (100 : Int32)) hF23 (Nat.le_of_ble_eq_true rfl)
  have hF25 : am_FR _ _ 203 := am_FR_I (a := 202) (j := 2) (v := (500 : Int32)) hF24 (Nat.le_of_ble_eq_true rfl)
  have hF26 : am_FR _ _ 203 := am_FR_I (a := 202) (j := 3) (v := (1 : Int32)) hF25 (Nat.le_of_ble_eq_true rfl)
  have hF27 : am_FR _ _ 203 := am_FR_R (a := 117) (j := 28) (v := some 202) hF26 (Nat.le_of_ble_eq_true rfl)
  have hF28 : am_FR _ _ 204 := am_FR_le hF27 (Nat.le_of_ble_eq_true rfl)
  have hF29 : am_FR _ _ 204 := am_FR_R (a := 117) (j := 29) (v := some 203) hF28 (Nat.le_of_ble_eq_true rfl)
  have hF30 : am_FR _ _ 205 := am_FR_le hF29 (Nat.le_of_ble_eq_true rfl)
  have hF31 : am_FR _ _ 205 := am_FR_R (a := 117) (j := 30) (v := some 204) hF30 (Nat.le_of_ble_eq_true rfl)
  have hF32 : am_FR _ _ 210 := am_FR_M (b := 205) (N := 4) hF31
  have hF33 : am_FR _ _ 210 := am_FR_R (a := 117) (j := 31) (v := some 205) hF32 (Nat.le_of_ble_eq_true rfl)
  have hF34 : am_FR _ _ 221 := am_FR_M (b := 210) (N := 10) hF33
  have hF35 : am_FR _ _ 221 := am_FR_R (a := 117) (j := 32) (v := some 210) hF34 (Nat.le_of_ble_eq_true rfl)
  have hF36 : am_FR _ _ 222 := am_FR_le hF35 (Nat.le_of_ble_eq_true rfl)
  have hF37 : am_FR _ _ 222 := am_FR_R (a := 117) (j := 33) (v := some 221) hF36 (Nat.le_of_ble_eq_true rfl)
  have hF38 : am_FR _ _ 223 := am_FR_le hF37 (Nat.le_of_ble_eq_true rfl)
  have hF39 : am_FR _ _ 223 := am_FR_R (a := 117) (j := 34) (v := some 222) hF38 (Nat.le_of_ble_eq_true rfl)
  have hF40 : am_FR _ _ 224 := am_FR_le hF39 (Nat.le_of_ble_eq_true rfl)
  have hF41 : am_FR _ _ 224 := am_FR_R (a := 117) (j := 35) (v := some 223) hF40 (Nat.le_of_ble_eq_true rfl)
  have hF42 : am_FR _ _ 1425 := am_FR_M (b := 224) (N := 1200) hF41
  have hF43 : am_FR _ _ 1425 := am_FR_R (a := 117) (j := 41) (v := some 224) hF42 (Nat.le_of_ble_eq_true rfl)
  have hF44 : am_FR _ _ 1426 := am_FR_le hF43 (Nat.le_of_ble_eq_true rfl)
  have hF45 : am_FR _ _ 1426 := am_FR_R (a := 117) (j := 42) (v := some 1425) hF44 (Nat.le_of_ble_eq_true rfl)
  have hF46 : am_FR _ _ 1427 := am_FR_le hF45 (Nat.le_of_ble_eq_true rfl)
  have hF47 : am_FR _ _ 1427 := am_FR_R (a := 117) (j := 43) (v := some 1426) hF46 (Nat.le_of_ble_eq_true rfl)
  have hF48 : am_FR _ _ 1428 := am_FR_le hF47 (Nat.le_of_ble_eq_true rfl)
  have hF49 : am_FR _ _ 1428 := am_FR_R (a := 117) (j := 44) (v := some 1427) hF48 (Nat.le_of_ble_eq_true rfl)
  have hF50 : am_FR _ _ 2629 := am_FR_M (b := 1428) (N := 1200) hF49
  have hF51 : am_FR _ _ 2629 := am_FR_R (a := 117) (j := 45) (v := some 1428) hF50 (Nat.le_of_ble_eq_true rfl)
  have hF52 : am_FR _ _ 2630 := am_FR_le hF51 (Nat.le_of_ble_eq_true rfl)
  have hF53 : am_FR _ _ 2630 := am_FR_R (a := 117) (j := 51) (v := some 2629) hF52 (Nat.le_of_ble_eq_true rfl)
  have hF54 : am_FR _ _ 2631 := am_FR_le hF53 (Nat.le_of_ble_eq_true rfl)
  have hF55 : am_FR _ _ 2631 := am_FR_R (a := 117) (j := 52) (v := some 2630) hF54 (Nat.le_of_ble_eq_true rfl)
  have hF56 : am_FR _ _ 2632 := am_FR_le hF55 (Nat.le_of_ble_eq_true rfl)
  have hF57 : am_FR _ _ 2632 := am_FR_R (a := 117) (j := 53) (v := some 2631) hF56 (Nat.le_of_ble_eq_true rfl)
  have hF58 : am_FR _ _ 2633 := am_FR_le hF57 (Nat.le_of_ble_eq_true rfl)
  have hF59 : am_FR _ _ 2633 := am_FR_R (a := 117) (j := 54) (v := some 2632) hF58 (Nat.le_of_ble_eq_true rfl)
  have hF60 : am_FR _ _ 2637 := am_FR_M (b := 2633) (N := 3) hF59
  have hF61 : am_FR _ _ 2637 := am_FR_R (a := 117) (j := 55) (v := some 2633) hF60 (Nat.le_of_ble_eq_true rfl)
  exact hF61
set_option maxRecDepth 100000 in
set_option maxHeartbeats 4000000 in
theorem ci_117 {E : am_E} (hE : am_EH E) (hA : am_AO E) {V : Nat → Nat → Option Nat} {D : am_D} (hF0 : am_FR V D 118) : am_C E mX12_init 1 2519 30795 [.ref 117] (am_Gk V 118) D (.inl none) (am_Gk (vc_117 V) 2637) (dc_117 D) := by
  refine am_C_of (by decide +kernel) (Nat.le_of_ble_eq_true rfl) ?_
  change am_S E mX12_init 1 2519 30795 (.inl none) (am_Gk (vc_117 V) 2637) (dc_117 D) 0 0 0 [(0, .ref 117)] [] (am_Gk V 118) D
  refine am_aload_n (am_dec tmX12_init_0 0 rfl) rfl rfl ?_
  refine am_objInit (am_dec tmX12_init_0 1 rfl) lmo_X12_1 lk_obi lk_obc (by decide) ?_
  refine am_aload_n (am_dec tmX12_init_0 2 rfl) rfl rfl ?_
  refine am_iconst (v := (-1 : Int32)) (am_dec tmX12_init_0 3 rfl) (by decide) ?_
  refine am_putIK (j := 3) hE (am_dec tmX12_init_0 4 rfl) sh_117 (by decide) cf12 (by decide) rfl lf_X12_9 (Or.inr ⟨rfl, rfl⟩) rfl rfl ?_
  have hF1 : am_FR _ _ 118 := am_FR_I (a := 117) (j := 3) (v := (-1 : Int32)) hF0 (Nat.le_of_ble_eq_true rfl)
  refine am_aload_n (am_dec tmX12_init_0 5 rfl) rfl rfl ?_
  refine am_sipush (v := (300 : Int32)) (am_dec tmX12_init_0 6 rfl) (by decide) ?_
  refine am_newarrK (t := 0) (N := 300) hE (am_dec tmX12_init_0 7 rfl) rfl (Or.inl ⟨rfl, rfl⟩) lk_ai (by decide) (by decide) sh_118 hF1 (Nat.le_of_ble_eq_true rfl) (Nat.le_of_ble_eq_true rfl) ?_
  have hF2 : am_FR _ _ 119 := am_FR_le hF1 (Nat.le_of_ble_eq_true rfl)
  refine am_putRK (j := 9) hE (am_dec tmX12_init_0 8 rfl) sh_117 (by decide) cf12 (by decide) rfl lf_X12_13 (Or.inr ⟨rfl, rfl⟩) (fun _ => rfl) (fun _ => rfl) ?_
  have hF3 : am_FR _ _ 119 := am_FR_R (a := 117) (j := 9) (v := some 118) hF2 (Nat.le_of_ble_eq_true rfl)
  refine am_aload_n (am_dec tmX12_init_0 9 rfl) rfl rfl ?_
  refine am_sipush (v := (600 : Int32)) (am_dec tmX12_init_0 10 rfl) (by decide) ?_
  refine am_newarrK (t := 0) (N := 600) hE (am_dec tmX12_init_0 11 rfl) rfl (Or.inl ⟨rfl, rfl⟩) lk_ai (by decide) (by decide) sh_119 hF3 (Nat.le_of_ble_eq_true rfl) (Nat.le_of_ble_eq_true rfl) ?_
  have hF4 : am_FR _ _ 120 := am_FR_le hF3 (Nat.le_of_ble_eq_true rfl)
  refine am_putRK (j := 10) hE (am_dec tmX12_init_0 12 rfl) sh_117 (by decide) cf12 (by decide) rfl lf_X12_17 (Or.inr ⟨rfl, rfl⟩) (fun _ => rfl) (fun _ => rfl) ?_
  have hF5 : am_FR _ _ 120 := am_FR_R (a := 117) (j := 10) (v := some 119) hF4 (Nat.le_of_ble_eq_true rfl)
  refine am_aload_n (am_dec tmX12_init_0 13 rfl) rfl rfl ?_
  refine am_bipush (v := (12 : Int32)) (am_dec tmX12_init_0 14 rfl) (by decide) ?_
  refine am_iconst (v := (2 : Int32)) (am_dec tmX12_init_0 15 rfl) (by decide) ?_
  refine am_multiK (N := 12) (K := 2) hE hA (am_dec tmX12_init_0 16 rfl) lck_X12_20 lk_ai (by decide) (by decide) (by decide) (by decide) (by decide) (by decide) shm_120 hF5 (Nat.le_of_ble_eq_true rfl) (Nat.le_of_ble_eq_true rfl) ?_
  have hF6 : am_FR _ _ 133 := am_FR_M (b := 120) (N := 12) hF5
  refine am_putRK (j := 11) hE (am_dec tmX12_init_0 17 rfl) sh_117 (by decide) cf12 (by decide) rfl lf_X12_22 (Or.inr ⟨rfl, rfl⟩) (fun _ => rfl) (fun _ => rfl) ?_
  have hF7 : am_FR _ _ 133 := am_FR_R (a := 117) (j := 11) (v := some 120) hF6 (Nat.le_of_ble_eq_true rfl)
  refine am_aload_n (am_dec tmX12_init_0 18 rfl) rfl rfl ?_
  refine am_bipush (v := (16 : Int32)) (am_dec tmX12_init_0 19 rfl) (by decide) ?_
  refine am_putIK (j := 14) hE (am_dec tmX12_init_0 20 rfl) sh_117 (by decide) cf12 (by decide) rfl lf_X12_25 (Or.inr ⟨rfl, rfl⟩) rfl rfl ?_
  have hF8 : am_FR _ _ 133 := am_FR_I (a := 117) (j := 14) (v := (16 : Int32)) hF7 (Nat.le_of_ble_eq_true rfl)
  refine am_aload_n (am_dec tmX12_init_0 21 rfl) rfl rfl ?_
  refine am_iconst (v := (4 : Int32)) (am_dec tmX12_init_0 22 rfl) (by decide) ?_
  refine am_putIK (j := 15) hE (am_dec tmX12_init_0 23 rfl) sh_117 (by decide) cf12 (by decide) rfl lf_X12_28 (Or.inr ⟨rfl, rfl⟩) rfl rfl ?_
  have hF9 : am_FR _ _ 133 := am_FR_I (a := 117) (j := 15) (v := (4 : Int32)) hF8 (Nat.le_of_ble_eq_true rfl)
  refine am_aload_n (am_dec tmX12_init_0 24 rfl) rfl rfl ?_
  refine am_iconst (v := (3 : Int32)) (am_dec tmX12_init_0 25 rfl) (by decide) ?_
  refine am_putIK (j := 16) hE (am_dec tmX12_init_0 26 rfl) sh_117 (by decide) cf12 (by decide) rfl lf_X12_31 (Or.inr ⟨rfl, rfl⟩) rfl rfl ?_
  have hF10 : am_FR _ _ 133 := am_FR_I (a := 117) (j := 16) (v := (3 : Int32)) hF9 (Nat.le_of_ble_eq_true rfl)
  refine am_aload_n (am_dec tmX12_init_0 27 rfl) rfl rfl ?_
  refine am_sipush (v := (200 : Int32)) (am_dec tmX12_init_0 28 rfl) (by decide) ?_
  refine am_putIK (j := 17) hE (am_dec tmX12_init_0 29 rfl) sh_117 (by decide) cf12 (by decide) rfl lf_X12_34 (Or.inr ⟨rfl, rfl⟩) rfl rfl ?_
  have hF11 : am_FR _ _ 133 := am_FR_I (a := 117) (j := 17) (v := (200 : Int32)) hF10 (Nat.le_of_ble_eq_true rfl)
  refine am_aload_n (am_dec tmX12_init_0 30 rfl) rfl rfl ?_
  refine am_iconst (v := (3 : Int32)) (am_dec tmX12_init_0 31 rfl) (by decide) ?_
  refine am_putIK (j := 18) hE (am_dec tmX12_init_0 32 rfl) sh_117 (by decide) cf12 (by decide) rfl lf_X12_37 (Or.inr ⟨rfl, rfl⟩) rfl rfl ?_
  have hF12 : am_FR _ _ 133 := am_FR_I (a := 117) (j := 18) (v := (3 : Int32)) hF11 (Nat.le_of_ble_eq_true rfl)
  refine am_aload_n (am_dec tmX12_init_0 33 rfl) rfl rfl ?_
  refine am_bipush (v := (8 : Int32)) (am_dec tmX12_init_0 34 rfl) (by decide) ?_
  refine am_putIK (j := 19) hE (am_dec tmX12_init_0 35 rfl) sh_117 (by decide) cf12 (by decide) rfl lf_X12_40 (Or.inr ⟨rfl, rfl⟩) rfl rfl ?_
  have hF13 : am_FR _ _ 133 := am_FR_I (a := 117) (j := 19) (v := (8 : Int32)) hF12 (Nat.le_of_ble_eq_true rfl)
  refine am_aload_n (am_dec tmX12_init_0 36 rfl) rfl rfl ?_
  refine am_iconst (v := (5 : Int32)) (am_dec tmX12_init_0 37 rfl) (by decide) ?_
  refine am_sipush (v := (600 : Int32)) (am_dec tmX12_init_0 38 rfl) (by decide) ?_
  refine am_multiK (N := 5) (K := 600) hE hA (am_dec tmX12_init_0 39 rfl) lck_X12_20 lk_ai (by decide) (by decide) (by decide) (by decide) (by decide) (by decide) shm_133 hF13 (Nat.le_of_ble_eq_true rfl) (Nat.le_of_ble_eq_true rfl) ?_
  have hF14 : am_FR _ _ 139 := am_FR_M (b := 133) (N := 5) hF13
  refine am_putRK (j := 24) hE (am_dec tmX12_init_0 40 rfl) sh_117 (by decide) cf12 (by decide) rfl lf_X12_43 (Or.inr ⟨rfl, rfl⟩) (fun _ => rfl) (fun _ => rfl) ?_
  have hF15 : am_FR _ _ 139 := am_FR_R (a := 117) (j := 24) (v := some 133) hF14 (Nat.le_of_ble_eq_true rfl)
  refine am_aload_n (am_dec tmX12_init_0 41 rfl) rfl rfl ?_
  refine am_iconst (v := (5 : Int32)) (am_dec tmX12_init_0 42 rfl) (by decide) ?_
  refine am_newarrK (t := 0) (N := 5) hE (am_dec tmX12_init_0 43 rfl) rfl (Or.inl ⟨rfl, rfl⟩) lk_ai (by decide) (by decide) sh_139 hF15 (Nat.le_of_ble_eq_true rfl) (Nat.le_of_ble_eq_true rfl) ?_
  have hF16 : am_FR _ _ 140 := am_FR_le hF15 (Nat.le_of_ble_eq_true rfl)
  refine am_putRK (j := 25) hE (am_dec tmX12_init_0 44 rfl) sh_117 (by decide) cf12 (by decide) rfl lf_X12_46 (Or.inr ⟨rfl, rfl⟩) (fun _ => rfl) (fun _ => rfl) ?_
  have hF17 : am_FR _ _ 140 := am_FR_R (a := 117) (j := 25) (v := some 139) hF16 (Nat.le_of_ble_eq_true rfl)
  refine am_aload_n (am_dec tmX12_init_0 45 rfl) rfl rfl ?_
  refine am_bipush (v := (60 : Int32)) (am_dec tmX12_init_0 46 rfl) (by decide) ?_
  refine am_iconst (v := (2 : Int32)) (am_dec tmX12_init_0 47 rfl) (by decide) ?_
  refine am_multiK (N := 60) (K := 2) hE hA (am_dec tmX12_init_0 48 rfl) lck_X12_20 lk_ai (by decide) (by decide) (by decide) (by decide) (by decide) (by decide) shm_140 hF17 (Nat.le_of_ble_eq_true rfl) (Nat.le_of_ble_eq_true rfl) ?_
  have hF18 : am_FR _ _ 201 := am_FR_M (b := 140) (N := 60) hF17
  refine am_putRK (j := 26) hE (am_dec tmX12_init_0 49 rfl) sh_117 (by decide) cf12 (by decide) rfl lf_X12_49 (Or.inr ⟨rfl, rfl⟩) (fun _ => rfl) (fun _ => rfl) ?_
  have hF19 : am_FR _ _ 201 := am_FR_R (a := 117) (j := 26) (v := some 140) hF18 (Nat.le_of_ble_eq_true rfl)
  refine am_aload_n (am_dec tmX12_init_0 50 rfl) rfl rfl ?_
  refine am_iconst (v := (5 : Int32)) (am_dec tmX12_init_0 51 rfl) (by decide) ?_
  refine am_newarrK (t := 0) (N := 5) hE (am_dec tmX12_init_0 52 rfl) rfl (Or.inl ⟨rfl, rfl⟩) lk_ai (by decide) (by decide) sh_201 hF19 (Nat.le_of_ble_eq_true rfl) (Nat.le_of_ble_eq_true rfl) ?_
  have hF20 : am_FR _ _ 202 := am_FR_le hF19 (Nat.le_of_ble_eq_true rfl)
  refine am_putRK (j := 27) hE (am_dec tmX12_init_0 53 rfl) sh_117 (by decide) cf12 (by decide) rfl lf_X12_52 (Or.inr ⟨rfl, rfl⟩) (fun _ => rfl) (fun _ => rfl) ?_
  have hF21 : am_FR _ _ 202 := am_FR_R (a := 117) (j := 27) (v := some 201) hF20 (Nat.le_of_ble_eq_true rfl)
  refine am_aload_n (am_dec tmX12_init_0 54 rfl) rfl rfl ?_
  refine am_iconst (v := (4 : Int32)) (am_dec tmX12_init_0 55 rfl) (by decide) ?_
  refine am_newarrK (t := 0) (N := 4) hE (am_dec tmX12_init_0 56 rfl) rfl (Or.inl ⟨rfl, rfl⟩) lk_ai (by decide) (by decide) sh_202 hF21 (Nat.le_of_ble_eq_true rfl) (Nat.le_of_ble_eq_true rfl) ?_
  have hF22 : am_FR _ _ 203 := am_FR_le hF21 (Nat.le_of_ble_eq_true rfl)
  refine am_dup (am_dec tmX12_init_0 57 rfl) rfl ?_
  refine am_iconst (v := (0 : Int32)) (am_dec tmX12_init_0 58 rfl) (by decide) ?_
  refine am_iconst (v := (1 : Int32)) (am_dec tmX12_init_0 59 rfl) (by decide) ?_
  refine am_iastK (j := 0) hE (am_dec tmX12_init_1 0 rfl) sh_202 (by decide) (by decide) (by decide) (by decide) ?_
  have hF23 : am_FR _ _ 203 := am_FR_I (a := 202) (j := 0) (v := (1 : Int32)) hF22 (Nat.le_of_ble_eq_true rfl)
  refine am_dup (am_dec tmX12_init_1 1 rfl) rfl ?_
  refine am_iconst (v := (1 : Int32)) (am_dec tmX12_init_1 2 rfl) (by decide) ?_
  refine am_bipush (v := (100 : Int32)) (am_dec tmX12_init_1 3 rfl) (by decide) ?_
  refine am_iastK (j := 1) hE (am_dec tmX12_init_1 4 rfl) sh_202 (by decide) (by decide) (by decide) (by decide) ?_
  have hF24 : am_FR _ _ 203 := am_FR_I (a := 202) (j := 1) (v := (100 : Int32)) hF23 (Nat.le_of_ble_eq_true rfl)
  refine am_dup (am_dec tmX12_init_1 5 rfl) rfl ?_
  refine am_iconst (v := (2 : Int32)) (am_dec tmX12_init_1 6 rfl) (by decide) ?_
  refine am_sipush (v := (500 : Int32)) (am_dec tmX12_init_1 7 rfl) (by decide) ?_
  refine am_iastK (j := 2) hE (am_dec tmX12_init_1 8 rfl) sh_202 (by decide) (by decide) (by decide) (by decide) ?_
  have hF25 : am_FR _ _ 203 := am_FR_I (a := 202) (j := 2) (v := (500 : Int32)) hF24 (Nat.le_of_ble_eq_true rfl)
  refine am_dup (am_dec tmX12_init_1 9 rfl) rfl ?_
  refine am_iconst (v := (3 : Int32)) (am_dec tmX12_init_1 10 rfl) (by decide) ?_
  refine am_iconst (v := (1 : Int32)) (am_dec tmX12_init_1 11 rfl) (by decide) ?_
  refine am_iastK (j := 3) hE (am_dec tmX12_init_1 12 rfl) sh_202 (by decide) (by decide) (by decide) (by decide) ?_
  have hF26 : am_FR _ _ 203 := am_FR_I (a := 202) (j := 3) (v := (1 : Int32)) hF25 (Nat.le_of_ble_eq_true rfl)
  refine am_putRK (j := 28) hE (am_dec tmX12_init_1 13 rfl) sh_117 (by decide) cf12 (by decide) rfl lf_X12_55 (Or.inr ⟨rfl, rfl⟩) (fun _ => rfl) (fun _ => rfl) ?_
  have hF27 : am_FR _ _ 203 := am_FR_R (a := 117) (j := 28) (v := some 202) hF26 (Nat.le_of_ble_eq_true rfl)
  refine am_aload_n (am_dec tmX12_init_1 14 rfl) rfl rfl ?_
  refine am_bipush (v := (6 : Int32)) (am_dec tmX12_init_1 15 rfl) (by decide) ?_
  refine am_newarrK (t := 0) (N := 6) hE (am_dec tmX12_init_1 16 rfl) rfl (Or.inl ⟨rfl, rfl⟩) lk_ai (by decide) (by decide) sh_203 hF27 (Nat.le_of_ble_eq_true rfl) (Nat.le_of_ble_eq_true rfl) ?_
  have hF28 : am_FR _ _ 204 := am_FR_le hF27 (Nat.le_of_ble_eq_true rfl)
  refine am_putRK (j := 29) hE (am_dec tmX12_init_1 17 rfl) sh_117 (by decide) cf12 (by decide) rfl lf_X12_58 (Or.inr ⟨rfl, rfl⟩) (fun _ => rfl) (fun _ => rfl) ?_
  have hF29 : am_FR _ _ 204 := am_FR_R (a := 117) (j := 29) (v := some 203) hF28 (Nat.le_of_ble_eq_true rfl)
  refine am_aload_n (am_dec tmX12_init_1 18 rfl) rfl rfl ?_
  refine am_bipush (v := (10 : Int32)) (am_dec tmX12_init_1 19 rfl) (by decide) ?_
  refine am_newarrK (t := 0) (N := 10) hE (am_dec tmX12_init_1 20 rfl) rfl (Or.inl ⟨rfl, rfl⟩) lk_ai (by decide) (by decide) sh_204 hF29 (Nat.le_of_ble_eq_true rfl) (Nat.le_of_ble_eq_true rfl) ?_
  have hF30 : am_FR _ _ 205 := am_FR_le hF29 (Nat.le_of_ble_eq_true rfl)
  refine am_putRK (j := 30) hE (am_dec tmX12_init_1 21 rfl) sh_117 (by decide) cf12 (by decide) rfl lf_X12_61 (Or.inr ⟨rfl, rfl⟩) (fun _ => rfl) (fun _ => rfl) ?_
  have hF31 : am_FR _ _ 205 := am_FR_R (a := 117) (j := 30) (v := some 204) hF30 (Nat.le_of_ble_eq_true rfl)
  refine am_aload_n (am_dec tmX12_init_1 22 rfl) rfl rfl ?_
  refine am_iconst (v := (4 : Int32)) (am_dec tmX12_init_1 23 rfl) (by decide) ?_
  refine am_iconst (v := (3 : Int32)) (am_dec tmX12_init_1 24 rfl) (by decide) ?_
  refine am_multiK (N := 4) (K := 3) hE hA (am_dec tmX12_init_1 25 rfl) lck_X12_20 lk_ai (by decide) (by decide) (by decide) (by decide) (by decide) (by decide) shm_205 hF31 (Nat.le_of_ble_eq_true rfl) (Nat.le_of_ble_eq_true rfl) ?_
  have hF32 : am_FR _ _ 210 := am_FR_M (b := 205) (N := 4) hF31
  refine am_putRK (j := 31) hE (am_dec tmX12_init_1 26 rfl) sh_117 (by decide) cf12 (by decide) rfl lf_X12_64 (Or.inr ⟨rfl, rfl⟩) (fun _ => rfl) (fun _ => rfl) ?_
  have hF33 : am_FR _ _ 210 := am_FR_R (a := 117) (j := 31) (v := some 205) hF32 (Nat.le_of_ble_eq_true rfl)
  refine am_aload_n (am_dec tmX12_init_1 27 rfl) rfl rfl ?_
  refine am_bipush (v := (10 : Int32)) (am_dec tmX12_init_1 28 rfl) (by decide) ?_
  refine am_iconst (v := (4 : Int32)) (am_dec tmX12_init_1 29 rfl) (by decide) ?_
  refine am_multiK (N := 10) (K := 4) hE hA (am_dec tmX12_init_1 30 rfl) lck_X12_20 lk_ai (by decide) (by decide) (by decide) (by decide) (by decide) (by decide) shm_210 hF33 (Nat.le_of_ble_eq_true rfl) (Nat.le_of_ble_eq_true rfl) ?_
  have hF34 : am_FR _ _ 221 := am_FR_M (b := 210) (N := 10) hF33
  refine am_putRK (j := 32) hE (am_dec tmX12_init_1 31 rfl) sh_117 (by decide) cf12 (by decide) rfl lf_X12_67 (Or.inr ⟨rfl, rfl⟩) (fun _ => rfl) (fun _ => rfl) ?_
  have hF35 : am_FR _ _ 221 := am_FR_R (a := 117) (j := 32) (v := some 210) hF34 (Nat.le_of_ble_eq_true rfl)
  refine am_aload_n (am_dec tmX12_init_1 32 rfl) rfl rfl ?_
  refine am_sipush (v := (1200 : Int32)) (am_dec tmX12_init_1 33 rfl) (by decide) ?_
  refine am_newarrK (t := 0) (N := 1200) hE (am_dec tmX12_init_1 34 rfl) rfl (Or.inl ⟨rfl, rfl⟩) lk_ai (by decide) (by decide) sh_221 hF35 (Nat.le_of_ble_eq_true rfl) (Nat.le_of_ble_eq_true rfl) ?_
  have hF36 : am_FR _ _ 222 := am_FR_le hF35 (Nat.le_of_ble_eq_true rfl)
  refine am_putRK (j := 33) hE (am_dec tmX12_init_1 35 rfl) sh_117 (by decide) cf12 (by decide) rfl lf_X12_70 (Or.inr ⟨rfl, rfl⟩) (fun _ => rfl) (fun _ => rfl) ?_
  have hF37 : am_FR _ _ 222 := am_FR_R (a := 117) (j := 33) (v := some 221) hF36 (Nat.le_of_ble_eq_true rfl)
  refine am_aload_n (am_dec tmX12_init_1 36 rfl) rfl rfl ?_
  refine am_sipush (v := (1200 : Int32)) (am_dec tmX12_init_1 37 rfl) (by decide) ?_
  refine am_newarrK (t := 0) (N := 1200) hE (am_dec tmX12_init_1 38 rfl) rfl (Or.inl ⟨rfl, rfl⟩) lk_ai (by decide) (by decide) sh_222 hF37 (Nat.le_of_ble_eq_true rfl) (Nat.le_of_ble_eq_true rfl) ?_
  have hF38 : am_FR _ _ 223 := am_FR_le hF37 (Nat.le_of_ble_eq_true rfl)
  refine am_putRK (j := 34) hE (am_dec tmX12_init_1 39 rfl) sh_117 (by decide) cf12 (by decide) rfl lf_X12_73 (Or.inr ⟨rfl, rfl⟩) (fun _ => rfl) (fun _ => rfl) ?_
  have hF39 : am_FR _ _ 223 := am_FR_R (a := 117) (j := 34) (v := some 222) hF38 (Nat.le_of_ble_eq_true rfl)
  refine am_aload_n (am_dec tmX12_init_1 40 rfl) rfl rfl ?_
  refine am_bipush (v := (26 : Int32)) (am_dec tmX12_init_1 41 rfl) (by decide) ?_
  refine am_newarrK (t := 0) (N := 26) hE (am_dec tmX12_init_1 42 rfl) rfl (Or.inl ⟨rfl, rfl⟩) lk_ai (by decide) (by decide) sh_223 hF39 (Nat.le_of_ble_eq_true rfl) (Nat.le_of_ble_eq_true rfl) ?_
  have hF40 : am_FR _ _ 224 := am_FR_le hF39 (Nat.le_of_ble_eq_true rfl)
  refine am_putRK (j := 35) hE (am_dec tmX12_init_1 43 rfl) sh_117 (by decide) cf12 (by decide) rfl lf_X12_76 (Or.inr ⟨rfl, rfl⟩) (fun _ => rfl) (fun _ => rfl) ?_
  have hF41 : am_FR _ _ 224 := am_FR_R (a := 117) (j := 35) (v := some 223) hF40 (Nat.le_of_ble_eq_true rfl)
  refine am_aload_n (am_dec tmX12_init_1 44 rfl) rfl rfl ?_
  refine am_sipush (v := (1200 : Int32)) (am_dec tmX12_init_1 45 rfl) (by decide) ?_
  refine am_iconst (v := (3 : Int32)) (am_dec tmX12_init_1 46 rfl) (by decide) ?_
  refine am_multiK (N := 1200) (K := 3) hE hA (am_dec tmX12_init_1 47 rfl) lck_X12_20 lk_ai (by decide) (by decide) (by decide) (by decide) (by decide) (by decide) shm_224 hF41 (Nat.le_of_ble_eq_true rfl) (Nat.le_of_ble_eq_true rfl) ?_
  have hF42 : am_FR _ _ 1425 := am_FR_M (b := 224) (N := 1200) hF41
  refine am_putRK (j := 41) hE (am_dec tmX12_init_1 48 rfl) sh_117 (by decide) cf12 (by decide) rfl lf_X12_79 (Or.inr ⟨rfl, rfl⟩) (fun _ => rfl) (fun _ => rfl) ?_
  have hF43 : am_FR _ _ 1425 := am_FR_R (a := 117) (j := 41) (v := some 224) hF42 (Nat.le_of_ble_eq_true rfl)
  refine am_aload_n (am_dec tmX12_init_1 49 rfl) rfl rfl ?_
  refine am_sipush (v := (1200 : Int32)) (am_dec tmX12_init_1 50 rfl) (by decide) ?_
  refine am_newarrK (t := 0) (N := 1200) hE (am_dec tmX12_init_1 51 rfl) rfl (Or.inl ⟨rfl, rfl⟩) lk_ai (by decide) (by decide) sh_1425 hF43 (Nat.le_of_ble_eq_true rfl) (Nat.le_of_ble_eq_true rfl) ?_
  have hF44 : am_FR _ _ 1426 := am_FR_le hF43 (Nat.le_of_ble_eq_true rfl)
  refine am_putRK (j := 42) hE (am_dec tmX12_init_1 52 rfl) sh_117 (by decide) cf12 (by decide) rfl lf_X12_82 (Or.inr ⟨rfl, rfl⟩) (fun _ => rfl) (fun _ => rfl) ?_
  have hF45 : am_FR _ _ 1426 := am_FR_R (a := 117) (j := 42) (v := some 1425) hF44 (Nat.le_of_ble_eq_true rfl)
  refine am_aload_n (am_dec tmX12_init_1 53 rfl) rfl rfl ?_
  refine am_sipush (v := (1200 : Int32)) (am_dec tmX12_init_1 54 rfl) (by decide) ?_
  refine am_newarrK (t := 0) (N := 1200) hE (am_dec tmX12_init_1 55 rfl) rfl (Or.inl ⟨rfl, rfl⟩) lk_ai (by decide) (by decide) sh_1426 hF45 (Nat.le_of_ble_eq_true rfl) (Nat.le_of_ble_eq_true rfl) ?_
  have hF46 : am_FR _ _ 1427 := am_FR_le hF45 (Nat.le_of_ble_eq_true rfl)
  refine am_putRK (j := 43) hE (am_dec tmX12_init_1 56 rfl) sh_117 (by decide) cf12 (by decide) rfl lf_X12_85 (Or.inr ⟨rfl, rfl⟩) (fun _ => rfl) (fun _ => rfl) ?_
  have hF47 : am_FR _ _ 1427 := am_FR_R (a := 117) (j := 43) (v := some 1426) hF46 (Nat.le_of_ble_eq_true rfl)
  refine am_aload_n (am_dec tmX12_init_1 57 rfl) rfl rfl ?_
  refine am_bipush (v := (26 : Int32)) (am_dec tmX12_init_1 58 rfl) (by decide) ?_
  refine am_newarrK (t := 0) (N := 26) hE (am_dec tmX12_init_1 59 rfl) rfl (Or.inl ⟨rfl, rfl⟩) lk_ai (by decide) (by decide) sh_1427 hF47 (Nat.le_of_ble_eq_true rfl) (Nat.le_of_ble_eq_true rfl) ?_
  have hF48 : am_FR _ _ 1428 := am_FR_le hF47 (Nat.le_of_ble_eq_true rfl)
  refine am_putRK (j := 44) hE (am_dec tmX12_init_2 0 rfl) sh_117 (by decide) cf12 (by decide) rfl lf_X12_88 (Or.inr ⟨rfl, rfl⟩) (fun _ => rfl) (fun _ => rfl) ?_
  have hF49 : am_FR _ _ 1428 := am_FR_R (a := 117) (j := 44) (v := some 1427) hF48 (Nat.le_of_ble_eq_true rfl)
  refine am_aload_n (am_dec tmX12_init_2 1 rfl) rfl rfl ?_
  refine am_sipush (v := (1200 : Int32)) (am_dec tmX12_init_2 2 rfl) (by decide) ?_
  refine am_iconst (v := (3 : Int32)) (am_dec tmX12_init_2 3 rfl) (by decide) ?_
  refine am_multiK (N := 1200) (K := 3) hE hA (am_dec tmX12_init_2 4 rfl) lck_X12_20 lk_ai (by decide) (by decide) (by decide) (by decide) (by decide) (by decide) shm_1428 hF49 (Nat.le_of_ble_eq_true rfl) (Nat.le_of_ble_eq_true rfl) ?_
  have hF50 : am_FR _ _ 2629 := am_FR_M (b := 1428) (N := 1200) hF49
  refine am_putRK (j := 45) hE (am_dec tmX12_init_2 5 rfl) sh_117 (by decide) cf12 (by decide) rfl lf_X12_91 (Or.inr ⟨rfl, rfl⟩) (fun _ => rfl) (fun _ => rfl) ?_
  have hF51 : am_FR _ _ 2629 := am_FR_R (a := 117) (j := 45) (v := some 1428) hF50 (Nat.le_of_ble_eq_true rfl)
  refine am_aload_n (am_dec tmX12_init_2 6 rfl) rfl rfl ?_
  refine am_sipush (v := (1200 : Int32)) (am_dec tmX12_init_2 7 rfl) (by decide) ?_
  refine am_newarrK (t := 0) (N := 1200) hE (am_dec tmX12_init_2 8 rfl) rfl (Or.inl ⟨rfl, rfl⟩) lk_ai (by decide) (by decide) sh_2629 hF51 (Nat.le_of_ble_eq_true rfl) (Nat.le_of_ble_eq_true rfl) ?_
  have hF52 : am_FR _ _ 2630 := am_FR_le hF51 (Nat.le_of_ble_eq_true rfl)
  refine am_putRK (j := 51) hE (am_dec tmX12_init_2 9 rfl) sh_117 (by decide) cf12 (by decide) rfl lf_X12_94 (Or.inr ⟨rfl, rfl⟩) (fun _ => rfl) (fun _ => rfl) ?_
  have hF53 : am_FR _ _ 2630 := am_FR_R (a := 117) (j := 51) (v := some 2629) hF52 (Nat.le_of_ble_eq_true rfl)
  refine am_aload_n (am_dec tmX12_init_2 10 rfl) rfl rfl ?_
  refine am_bipush (v := (61 : Int32)) (am_dec tmX12_init_2 11 rfl) (by decide) ?_
  refine am_newarrK (t := 0) (N := 61) hE (am_dec tmX12_init_2 12 rfl) rfl (Or.inl ⟨rfl, rfl⟩) lk_ai (by decide) (by decide) sh_2630 hF53 (Nat.le_of_ble_eq_true rfl) (Nat.le_of_ble_eq_true rfl) ?_
  have hF54 : am_FR _ _ 2631 := am_FR_le hF53 (Nat.le_of_ble_eq_true rfl)
  refine am_putRK (j := 52) hE (am_dec tmX12_init_2 13 rfl) sh_117 (by decide) cf12 (by decide) rfl lf_X12_97 (Or.inr ⟨rfl, rfl⟩) (fun _ => rfl) (fun _ => rfl) ?_
  have hF55 : am_FR _ _ 2631 := am_FR_R (a := 117) (j := 52) (v := some 2630) hF54 (Nat.le_of_ble_eq_true rfl)
  refine am_aload_n (am_dec tmX12_init_2 14 rfl) rfl rfl ?_
  refine am_sipush (v := (600 : Int32)) (am_dec tmX12_init_2 15 rfl) (by decide) ?_
  refine am_newarrK (t := 0) (N := 600) hE (am_dec tmX12_init_2 16 rfl) rfl (Or.inl ⟨rfl, rfl⟩) lk_ai (by decide) (by decide) sh_2631 hF55 (Nat.le_of_ble_eq_true rfl) (Nat.le_of_ble_eq_true rfl) ?_
  have hF56 : am_FR _ _ 2632 := am_FR_le hF55 (Nat.le_of_ble_eq_true rfl)
  refine am_putRK (j := 53) hE (am_dec tmX12_init_2 17 rfl) sh_117 (by decide) cf12 (by decide) rfl lf_X12_100 (Or.inr ⟨rfl, rfl⟩) (fun _ => rfl) (fun _ => rfl) ?_
  have hF57 : am_FR _ _ 2632 := am_FR_R (a := 117) (j := 53) (v := some 2631) hF56 (Nat.le_of_ble_eq_true rfl)
  refine am_aload_n (am_dec tmX12_init_2 18 rfl) rfl rfl ?_
  refine am_bipush (v := (62 : Int32)) (am_dec tmX12_init_2 19 rfl) (by decide) ?_
  refine am_newarrK (t := 1) (N := 62) hE (am_dec tmX12_init_2 20 rfl) rfl (Or.inr ⟨rfl, rfl⟩) lk_al (by decide) (by decide) sh_2632 hF57 (Nat.le_of_ble_eq_true rfl) (Nat.le_of_ble_eq_true rfl) ?_
  have hF58 : am_FR _ _ 2633 := am_FR_le hF57 (Nat.le_of_ble_eq_true rfl)
  refine am_putRK (j := 54) hE (am_dec tmX12_init_2 21 rfl) sh_117 (by decide) cf12 (by decide) rfl lf_X12_103 (Or.inr ⟨rfl, rfl⟩) (fun _ => rfl) (fun _ => rfl) ?_
  have hF59 : am_FR _ _ 2633 := am_FR_R (a := 117) (j := 54) (v := some 2632) hF58 (Nat.le_of_ble_eq_true rfl)
  refine am_aload_n (am_dec tmX12_init_2 22 rfl) rfl rfl ?_
  refine am_iconst (v := (3 : Int32)) (am_dec tmX12_init_2 23 rfl) (by decide) ?_
  refine am_sipush (v := (3400 : Int32)) (am_dec tmX12_init_2 24 rfl) (by decide) ?_
  refine am_multiK (N := 3) (K := 3400) hE hA (am_dec tmX12_init_2 25 rfl) lck_X12_20 lk_ai (by decide) (by decide) (by decide) (by decide) (by decide) (by decide) shm_2633 hF59 (Nat.le_of_ble_eq_true rfl) (Nat.le_of_ble_eq_true rfl) ?_
  have hF60 : am_FR _ _ 2637 := am_FR_M (b := 2633) (N := 3) hF59
  refine am_putRK (j := 55) hE (am_dec tmX12_init_2 26 rfl) sh_117 (by decide) cf12 (by decide) rfl lf_X12_107 (Or.inr ⟨rfl, rfl⟩) (fun _ => rfl) (fun _ => rfl) ?_
  have hF61 : am_FR _ _ 2637 := am_FR_R (a := 117) (j := 55) (v := some 2633) hF60 (Nat.le_of_ble_eq_true rfl)
  exact am_vret (am_dec tmX12_init_2 27 rfl) rfl (Nat.le_of_ble_eq_true rfl) (Nat.le_of_ble_eq_true rfl)
