/-! methods as records, and the words of the tables that they use, by program -/
theorem am_w1 {w : Cond} (i : Nat) (h : tables_1[i]? = some w) (g : goodWord w = true) : w ∈ am_tg := am_tg_in (List.mem_append_right _ (List.mem_of_getElem? h)) g
theorem am_n1 {w : Cond} (i : Nat) (h : tables_1_1[i]? = some w) : w ∈ tables_1 := List.mem_append_left _ (List.mem_of_getElem? h)
theorem am_n2 {w : Cond} (i : Nat) (h : tables_1_2[i]? = some w) : w ∈ tables_1 := List.mem_append_right _ (List.mem_append_left _ (List.mem_of_getElem? h))
theorem am_n3 {w : Cond} (i : Nat) (h : tables_1_3[i]? = some w) : w ∈ tables_1 := List.mem_append_right _ (List.mem_append_right _ (List.mem_append_left _ (List.mem_of_getElem? h)))
theorem am_n4 {w : Cond} (i : Nat) (h : tables_1_4[i]? = some w) : w ∈ tables_1 := List.mem_append_right _ (List.mem_append_right _ (List.mem_append_right _ (List.mem_append_left _ (List.mem_of_getElem? h))))
theorem am_n5 {w : Cond} (i : Nat) (h : tables_1_5[i]? = some w) : w ∈ tables_1 := List.mem_append_right _ (List.mem_append_right _ (List.mem_append_right _ (List.mem_append_right _ (List.mem_append_left _ (List.mem_of_getElem? h)))))
theorem am_n6 {w : Cond} (i : Nat) (h : tables_1_6[i]? = some w) : w ∈ tables_1 := List.mem_append_right _ (List.mem_append_right _ (List.mem_append_right _ (List.mem_append_right _ (List.mem_append_right _ (List.mem_append_left _ (List.mem_of_getElem? h))))))
theorem am_n7 {w : Cond} (i : Nat) (h : tables_1_7[i]? = some w) : w ∈ tables_1 := List.mem_append_right _ (List.mem_append_right _ (List.mem_append_right _ (List.mem_append_right _ (List.mem_append_right _ (List.mem_append_right _ (List.mem_append_left _ (List.mem_of_getElem? h)))))))
theorem am_n8 {w : Cond} (i : Nat) (h : tables_1_8[i]? = some w) : w ∈ tables_1 := List.mem_append_right _ (List.mem_append_right _ (List.mem_append_right _ (List.mem_append_right _ (List.mem_append_right _ (List.mem_append_right _ (List.mem_append_right _ (List.mem_append_left _ (List.mem_of_getElem? h))))))))
theorem am_n9 {w : Cond} (i : Nat) (h : tables_1_9[i]? = some w) : w ∈ tables_1 := List.mem_append_right _ (List.mem_append_right _ (List.mem_append_right _ (List.mem_append_right _ (List.mem_append_right _ (List.mem_append_right _ (List.mem_append_right _ (List.mem_append_right _ (List.mem_append_left _ (List.mem_of_getElem? h)))))))))
theorem am_n10 {w : Cond} (i : Nat) (h : tables_1_10[i]? = some w) : w ∈ tables_1 := List.mem_append_right _ (List.mem_append_right _ (List.mem_append_right _ (List.mem_append_right _ (List.mem_append_right _ (List.mem_append_right _ (List.mem_append_right _ (List.mem_append_right _ (List.mem_append_right _ (List.mem_append_left _ (List.mem_of_getElem? h))))))))))
theorem am_n11 {w : Cond} (i : Nat) (h : tables_1_11[i]? = some w) : w ∈ tables_1 := List.mem_append_right _ (List.mem_append_right _ (List.mem_append_right _ (List.mem_append_right _ (List.mem_append_right _ (List.mem_append_right _ (List.mem_append_right _ (List.mem_append_right _ (List.mem_append_right _ (List.mem_append_right _ ((List.mem_of_getElem? h)))))))))))
theorem am_t1 {w : Cond} (i : Nat) (h : tables_1_1[i]? = some w) (g : goodWord w = true) : w ∈ am_tg := am_tg_in (List.mem_append_right _ (am_n1 i h)) g
theorem am_t2 {w : Cond} (i : Nat) (h : tables_1_2[i]? = some w) (g : goodWord w = true) : w ∈ am_tg := am_tg_in (List.mem_append_right _ (am_n2 i h)) g
theorem am_t3 {w : Cond} (i : Nat) (h : tables_1_3[i]? = some w) (g : goodWord w = true) : w ∈ am_tg := am_tg_in (List.mem_append_right _ (am_n3 i h)) g
theorem am_t4 {w : Cond} (i : Nat) (h : tables_1_4[i]? = some w) (g : goodWord w = true) : w ∈ am_tg := am_tg_in (List.mem_append_right _ (am_n4 i h)) g
theorem am_t5 {w : Cond} (i : Nat) (h : tables_1_5[i]? = some w) (g : goodWord w = true) : w ∈ am_tg := am_tg_in (List.mem_append_right _ (am_n5 i h)) g
theorem am_t6 {w : Cond} (i : Nat) (h : tables_1_6[i]? = some w) (g : goodWord w = true) : w ∈ am_tg := am_tg_in (List.mem_append_right _ (am_n6 i h)) g
theorem am_t7 {w : Cond} (i : Nat) (h : tables_1_7[i]? = some w) (g : goodWord w = true) : w ∈ am_tg := am_tg_in (List.mem_append_right _ (am_n7 i h)) g
theorem am_t8 {w : Cond} (i : Nat) (h : tables_1_8[i]? = some w) (g : goodWord w = true) : w ∈ am_tg := am_tg_in (List.mem_append_right _ (am_n8 i h)) g
theorem am_t9 {w : Cond} (i : Nat) (h : tables_1_9[i]? = some w) (g : goodWord w = true) : w ∈ am_tg := am_tg_in (List.mem_append_right _ (am_n9 i h)) g
theorem am_t10 {w : Cond} (i : Nat) (h : tables_1_10[i]? = some w) (g : goodWord w = true) : w ∈ am_tg := am_tg_in (List.mem_append_right _ (am_n10 i h)) g
theorem am_t11 {w : Cond} (i : Nat) (h : tables_1_11[i]? = some w) (g : goodWord w = true) : w ∈ am_tg := am_tg_in (List.mem_append_right _ (am_n11 i h)) g
theorem am_z0 : narrow .boolean (.int 0) = .int 0 := rfl
theorem am_z1 : narrow .boolean (.int 1) = .int 1 := rfl
theorem am_w2 {w : Cond} (i : Nat) (h : (k2_sels lw_privs)[i]? = some w) (g : goodWord w = true) : w ∈ am_tg := am_tg_in (List.mem_append_left _ (List.mem_of_getElem? h)) g
theorem am_u0 : ∀ w ∈ u_ws RX0 TX0 6, w ∈ am_tg := by decide +kernel
theorem cf0 : am_CF 0 6 RX0 TX0 := ⟨rfl, by decide, am_u0, tyX0_ok, nmX0, by decide +kernel⟩
theorem am_u1 : ∀ w ∈ u_ws RX1 TX1 14, w ∈ am_tg := by decide +kernel
theorem cf1 : am_CF 1 14 RX1 TX1 := ⟨rfl, by decide, am_u1, tyX1_ok, nmX1, by decide +kernel⟩
theorem am_u2 : ∀ w ∈ u_ws RX2 TX2 2, w ∈ am_tg := by decide +kernel
theorem cf2 : am_CF 2 2 RX2 TX2 := ⟨rfl, by decide, am_u2, tyX2_ok, nmX2, by decide +kernel⟩
theorem am_u3 : ∀ w ∈ u_ws RX3 TX3 8, w ∈ am_tg := by decide +kernel
theorem cf3 : am_CF 3 8 RX3 TX3 := ⟨rfl, by decide, am_u3, tyX3_ok, nmX3, by decide +kernel⟩
theorem am_u4 : ∀ w ∈ u_ws RX4 TX4 10, w ∈ am_tg := by decide +kernel
theorem cf4 : am_CF 4 10 RX4 TX4 := ⟨rfl, by decide, am_u4, tyX4_ok, nmX4, by decide +kernel⟩
theorem am_u5 : ∀ w ∈ u_ws RX5 TX5 3, w ∈ am_tg := by decide +kernel
theorem cf5 : am_CF 5 3 RX5 TX5 := ⟨rfl, by decide, am_u5, tyX5_ok, nmX5, by decide +kernel⟩
theorem am_u6 : ∀ w ∈ u_ws RX6 TX6 6, w ∈ am_tg := by decide +kernel
theorem cf6 : am_CF 6 6 RX6 TX6 := ⟨rfl, by decide, am_u6, tyX6_ok, nmX6, by decide +kernel⟩
theorem am_u7 : ∀ w ∈ u_ws RX7 TX7 2, w ∈ am_tg := by decide +kernel
theorem cf7 : am_CF 7 2 RX7 TX7 := ⟨rfl, by decide, am_u7, tyX7_ok, nmX7, by decide +kernel⟩
theorem am_u8 : ∀ w ∈ u_ws RX8 TX8 8, w ∈ am_tg := by decide +kernel
theorem cf8 : am_CF 8 8 RX8 TX8 := ⟨rfl, by decide, am_u8, tyX8_ok, nmX8, by decide +kernel⟩
theorem am_u9 : ∀ w ∈ u_ws RX9 TX9 3, w ∈ am_tg := by decide +kernel
theorem cf9 : am_CF 9 3 RX9 TX9 := ⟨rfl, by decide, am_u9, tyX9_ok, nmX9, by decide +kernel⟩
theorem am_u10 : ∀ w ∈ u_ws RX10 TX10 3, w ∈ am_tg := by decide +kernel
theorem cf10 : am_CF 10 3 RX10 TX10 := ⟨rfl, by decide, am_u10, tyX10_ok, nmX10, by decide +kernel⟩
theorem am_u11 : ∀ w ∈ u_ws RX11 TX11 14, w ∈ am_tg := by decide +kernel
theorem cf11 : am_CF 11 14 RX11 TX11 := ⟨rfl, by decide, am_u11, tyX11_ok, nmX11, by decide +kernel⟩
theorem am_u12 : ∀ w ∈ u_ws RX12 TX12 57, w ∈ am_tg := by decide +kernel
theorem cf12 : am_CF 12 57 RX12 TX12 := ⟨rfl, by decide, am_u12, tyX12_ok, nmX12, by decide +kernel⟩
def mX0_find : am_M := (yX0_find, cX0_find, 5, none, [])
theorem tmX0_find : am_all mX0_find.2.1 ttX0_find = true := tkX0_find
theorem hw_X0_find : Cond.code yX0_find cX0_find 5 (none) ∈ am_tg := am_t3 19 rfl rfl
theorem ok_X0_find : am_okM mX0_find 2 := ⟨hw_X0_find, am_t1 11 rfl rfl, by decide +kernel, by decide +kernel, by decide⟩
theorem in_X0_find : Cond.instanceMethod mX0_find.1 ∈ am_tg := am_t3 17 rfl rfl
theorem se_X0_find : Cond.selects mX0_find.1.cls mX0_find.1 mX0_find.1 ∈ am_tg := am_t3 18 rfl rfl
def mX0_isBlow : am_M := (yX0_isBlow, cX0_isBlow, 4, some .boolean, [])
theorem tmX0_isBlow : am_all mX0_isBlow.2.1 ttX0_isBlow = true := tkX0_isBlow
theorem hw_X0_isBlow : Cond.code yX0_isBlow cX0_isBlow 4 (some .boolean) ∈ am_tg := am_t3 22 rfl rfl
theorem ok_X0_isBlow : am_okM mX0_isBlow 3 := ⟨hw_X0_isBlow, am_t1 11 rfl rfl, by decide +kernel, by decide +kernel, by decide⟩
theorem st_X0_isBlow : Cond.static mX0_isBlow.1 ∈ am_tg := am_t3 21 rfl rfl
def mX7_loud : am_M := (yX7_loud, cX7_loud, 2, some .int, [])
theorem tmX7_loud : am_all mX7_loud.2.1 ttX7_loud = true := tkX7_loud
theorem hw_X7_loud : Cond.code yX7_loud cX7_loud 2 (some .int) ∈ am_tg := am_t3 26 rfl rfl
theorem ok_X7_loud : am_okM mX7_loud 1 := ⟨hw_X7_loud, am_t1 5 rfl rfl, by decide +kernel, by decide +kernel, by decide⟩
theorem in_X7_loud : Cond.instanceMethod mX7_loud.1 ∈ am_tg := am_t3 24 rfl rfl
theorem se_X7_loud : Cond.selects mX7_loud.1.cls mX7_loud.1 mX7_loud.1 ∈ am_tg := am_t3 25 rfl rfl
def mX7_at : am_M := (yX7_at, cX7_at, 2, some .int, [])
theorem tmX7_at : am_all mX7_at.2.1 ttX7_at = true := tkX7_at
theorem hw_X7_at : Cond.code yX7_at cX7_at 2 (some .int) ∈ am_tg := am_t2 221 rfl rfl
theorem ok_X7_at : am_okM mX7_at 1 := ⟨hw_X7_at, am_t1 5 rfl rfl, by decide +kernel, by decide +kernel, by decide⟩
theorem in_X7_at : Cond.instanceMethod mX7_at.1 ∈ am_tg := am_t2 219 rfl rfl
theorem se_X7_at : Cond.selects mX7_at.1.cls mX7_at.1 mX7_at.1 ∈ am_tg := am_t2 220 rfl rfl
def mX7_loudest : am_M := (yX7_loudest, cX7_loudest, 5, some .int, [])
theorem tmX7_loudest : am_all mX7_loudest.2.1 ttX7_loudest = true := tkX7_loudest
theorem hw_X7_loudest : Cond.code yX7_loudest cX7_loudest 5 (some .int) ∈ am_tg := am_t3 33 rfl rfl
theorem ok_X7_loudest : am_okM mX7_loudest 2 := ⟨hw_X7_loudest, am_t1 5 rfl rfl, by decide +kernel, by decide +kernel, by decide⟩
theorem in_X7_loudest : Cond.instanceMethod mX7_loudest.1 ∈ am_tg := am_t3 31 rfl rfl
theorem se_X7_loudest : Cond.selects mX7_loudest.1.cls mX7_loudest.1 mX7_loudest.1 ∈ am_tg := am_t3 32 rfl rfl
def mX0_at : am_M := (yX0_at, cX0_at, 2, some .int, [])
theorem tmX0_at : am_all mX0_at.2.1 ttX0_at = true := tkX0_at
theorem hw_X0_at : Cond.code yX0_at cX0_at 2 (some .int) ∈ am_tg := am_t6 74 rfl rfl
theorem ok_X0_at : am_okM mX0_at 1 := ⟨hw_X0_at, am_t1 11 rfl rfl, by decide +kernel, by decide +kernel, by decide⟩
theorem in_X0_at : Cond.instanceMethod mX0_at.1 ∈ am_tg := am_t6 72 rfl rfl
theorem se_X0_at : Cond.selects mX0_at.1.cls mX0_at.1 mX0_at.1 ∈ am_tg := am_t6 73 rfl rfl
def mX0_findGrid : am_M := (yX0_findGrid, cX0_findGrid, 2, none, [])
theorem tmX0_findGrid : am_all mX0_findGrid.2.1 ttX0_findGrid = true := tkX0_findGrid
theorem hw_X0_findGrid : Cond.code yX0_findGrid cX0_findGrid 2 (none) ∈ am_tg := am_t7 148 rfl rfl
theorem ok_X0_findGrid : am_okM mX0_findGrid 0 := ⟨hw_X0_findGrid, am_t1 11 rfl rfl, by decide +kernel, by decide +kernel, by decide⟩
theorem in_X0_findGrid : Cond.instanceMethod mX0_findGrid.1 ∈ am_tg := am_t7 146 rfl rfl
theorem se_X0_findGrid : Cond.selects mX0_findGrid.1.cls mX0_findGrid.1 mX0_findGrid.1 ∈ am_tg := am_t7 147 rfl rfl
def mX0_tryStep : am_M := (yX0_tryStep, cX0_tryStep, 7, none, [])
theorem tmX0_tryStep_0 : am_all mX0_tryStep.2.1 ttX0_tryStep_0 = true := tkX0_tryStep_0
theorem tmX0_tryStep_1 : am_all mX0_tryStep.2.1 ttX0_tryStep_1 = true := tkX0_tryStep_1
theorem hw_X0_tryStep : Cond.code yX0_tryStep cX0_tryStep 7 (none) ∈ am_tg := am_t7 152 rfl rfl
theorem ok_X0_tryStep : am_okM mX0_tryStep 1 := ⟨hw_X0_tryStep, am_t1 11 rfl rfl, by decide +kernel, by decide +kernel, by decide⟩
theorem in_X0_tryStep : Cond.instanceMethod mX0_tryStep.1 ∈ am_tg := am_t7 151 rfl rfl
theorem se_X0_tryStep : Cond.selects mX0_tryStep.1.cls mX0_tryStep.1 mX0_tryStep.1 ∈ am_tg := am_tg_in (List.mem_append_left _ (by decide +kernel)) (by decide +kernel)
def mJ7_fill_53178 : am_M := (yJ7_fill_53178, cJ7_fill_53178, 4, none, [])
theorem tmJ7_fill_53178 : am_all mJ7_fill_53178.2.1 ttJ7_fill_53178 = true := tkJ7_fill_53178
theorem hw_J7_fill_53178 : Cond.code yJ7_fill_53178 cJ7_fill_53178 4 (none) ∈ am_tg := am_t7 155 rfl rfl
theorem ok_J7_fill_53178 : am_okM mJ7_fill_53178 2 := ⟨hw_J7_fill_53178, am_t1 19 rfl rfl, by decide +kernel, by decide +kernel, by decide⟩
theorem st_J7_fill_53178 : Cond.static mJ7_fill_53178.1 ∈ am_tg := am_t7 154 rfl rfl
def mX0_addLeaving : am_M := (yX0_addLeaving, cX0_addLeaving, 2, none, [])
theorem tmX0_addLeaving : am_all mX0_addLeaving.2.1 ttX0_addLeaving = true := tkX0_addLeaving
theorem hw_X0_addLeaving : Cond.code yX0_addLeaving cX0_addLeaving 2 (none) ∈ am_tg := am_t7 162 rfl rfl
theorem ok_X0_addLeaving : am_okM mX0_addLeaving 1 := ⟨hw_X0_addLeaving, am_t1 11 rfl rfl, by decide +kernel, by decide +kernel, by decide⟩
theorem in_X0_addLeaving : Cond.instanceMethod mX0_addLeaving.1 ∈ am_tg := am_t7 161 rfl rfl
theorem se_X0_addLeaving : Cond.selects mX0_addLeaving.1.cls mX0_addLeaving.1 mX0_addLeaving.1 ∈ am_tg := am_tg_in (List.mem_append_left _ (by decide +kernel)) (by decide +kernel)
def mX0_leavingAt : am_M := (yX0_leavingAt, cX0_leavingAt, 2, some .int, [])
theorem tmX0_leavingAt : am_all mX0_leavingAt.2.1 ttX0_leavingAt = true := tkX0_leavingAt
theorem hw_X0_leavingAt : Cond.code yX0_leavingAt cX0_leavingAt 2 (some .int) ∈ am_tg := am_t7 166 rfl rfl
theorem ok_X0_leavingAt : am_okM mX0_leavingAt 1 := ⟨hw_X0_leavingAt, am_t1 11 rfl rfl, by decide +kernel, by decide +kernel, by decide⟩
theorem in_X0_leavingAt : Cond.instanceMethod mX0_leavingAt.1 ∈ am_tg := am_t7 165 rfl rfl
theorem se_X0_leavingAt : Cond.selects mX0_leavingAt.1.cls mX0_leavingAt.1 mX0_leavingAt.1 ∈ am_tg := am_tg_in (List.mem_append_left _ (by decide +kernel)) (by decide +kernel)
def mX0_take : am_M := (yX0_take, cX0_take, 4, none, [])
theorem tmX0_take : am_all mX0_take.2.1 ttX0_take = true := tkX0_take
theorem hw_X0_take : Cond.code yX0_take cX0_take 4 (none) ∈ am_tg := am_t7 170 rfl rfl
theorem ok_X0_take : am_okM mX0_take 3 := ⟨hw_X0_take, am_t1 11 rfl rfl, by decide +kernel, by decide +kernel, by decide⟩
theorem in_X0_take : Cond.instanceMethod mX0_take.1 ∈ am_tg := am_t7 169 rfl rfl
theorem se_X0_take : Cond.selects mX0_take.1.cls mX0_take.1 mX0_take.1 ∈ am_tg := am_tg_in (List.mem_append_left _ (by decide +kernel)) (by decide +kernel)
def mX11_left : am_M := (yX11_left, cX11_left, 2, some .int, [])
theorem tmX11_left : am_all mX11_left.2.1 ttX11_left = true := tkX11_left
theorem hw_X11_left : Cond.code yX11_left cX11_left 2 (some .int) ∈ am_tg := am_t5 58 rfl rfl
theorem ok_X11_left : am_okM mX11_left 2 := ⟨hw_X11_left, am_t1 1 rfl rfl, by decide +kernel, by decide +kernel, by decide⟩
theorem st_X11_left : Cond.static mX11_left.1 ∈ am_tg := am_t5 57 rfl rfl
def mX0_numberOf : am_M := (yX0_numberOf, cX0_numberOf, 2, some .int, [])
theorem tmX0_numberOf : am_all mX0_numberOf.2.1 ttX0_numberOf = true := tkX0_numberOf
theorem hw_X0_numberOf : Cond.code yX0_numberOf cX0_numberOf 2 (some .int) ∈ am_tg := am_t7 186 rfl rfl
theorem ok_X0_numberOf : am_okM mX0_numberOf 1 := ⟨hw_X0_numberOf, am_t1 11 rfl rfl, by decide +kernel, by decide +kernel, by decide⟩
theorem in_X0_numberOf : Cond.instanceMethod mX0_numberOf.1 ∈ am_tg := am_t7 185 rfl rfl
theorem se_X0_numberOf : Cond.selects mX0_numberOf.1.cls mX0_numberOf.1 mX0_numberOf.1 ∈ am_tg := am_tg_in (List.mem_append_left _ (by decide +kernel)) (by decide +kernel)
def mX11_cut : am_M := (yX11_cut, cX11_cut, 2, some .int, [])
theorem tmX11_cut : am_all mX11_cut.2.1 ttX11_cut = true := tkX11_cut
theorem hw_X11_cut : Cond.code yX11_cut cX11_cut 2 (some .int) ∈ am_tg := am_t5 61 rfl rfl
theorem ok_X11_cut : am_okM mX11_cut 2 := ⟨hw_X11_cut, am_t1 1 rfl rfl, by decide +kernel, by decide +kernel, by decide⟩
theorem st_X11_cut : Cond.static mX11_cut.1 ∈ am_tg := am_t5 60 rfl rfl
def mX0_intoMap : am_M := (yX0_intoMap, cX0_intoMap, 8, none, [])
theorem tmX0_intoMap : am_all mX0_intoMap.2.1 ttX0_intoMap = true := tkX0_intoMap
theorem hw_X0_intoMap : Cond.code yX0_intoMap cX0_intoMap 8 (none) ∈ am_tg := am_t7 181 rfl rfl
theorem ok_X0_intoMap : am_okM mX0_intoMap 2 := ⟨hw_X0_intoMap, am_t1 11 rfl rfl, by decide +kernel, by decide +kernel, by decide⟩
theorem in_X0_intoMap : Cond.instanceMethod mX0_intoMap.1 ∈ am_tg := am_t7 179 rfl rfl
theorem se_X0_intoMap : Cond.selects mX0_intoMap.1.cls mX0_intoMap.1 mX0_intoMap.1 ∈ am_tg := am_t7 180 rfl rfl
def mX9_add : am_M := (yX9_add, cX9_add, 3, none, [])
theorem tmX9_add : am_all mX9_add.2.1 ttX9_add = true := tkX9_add
theorem hw_X9_add : Cond.code yX9_add cX9_add 3 (none) ∈ am_tg := am_t5 131 rfl rfl
theorem ok_X9_add : am_okM mX9_add 2 := ⟨hw_X9_add, am_t1 7 rfl rfl, by decide +kernel, by decide +kernel, by decide⟩
theorem in_X9_add : Cond.instanceMethod mX9_add.1 ∈ am_tg := am_t5 129 rfl rfl
theorem se_X9_add : Cond.selects mX9_add.1.cls mX9_add.1 mX9_add.1 ∈ am_tg := am_t5 130 rfl rfl
def mX9_clear : am_M := (yX9_clear, cX9_clear, 1, none, [])
theorem tmX9_clear : am_all mX9_clear.2.1 ttX9_clear = true := tkX9_clear
theorem hw_X9_clear : Cond.code yX9_clear cX9_clear 1 (none) ∈ am_tg := am_t5 110 rfl rfl
theorem ok_X9_clear : am_okM mX9_clear 0 := ⟨hw_X9_clear, am_t1 7 rfl rfl, by decide +kernel, by decide +kernel, by decide⟩
theorem in_X9_clear : Cond.instanceMethod mX9_clear.1 ∈ am_tg := am_t5 108 rfl rfl
theorem se_X9_clear : Cond.selects mX9_clear.1.cls mX9_clear.1 mX9_clear.1 ∈ am_tg := am_t5 109 rfl rfl
def mX9_lastFrom : am_M := (yX9_lastFrom, cX9_lastFrom, 1, some .int, [])
theorem tmX9_lastFrom : am_all mX9_lastFrom.2.1 ttX9_lastFrom = true := tkX9_lastFrom
theorem hw_X9_lastFrom : Cond.code yX9_lastFrom cX9_lastFrom 1 (some .int) ∈ am_tg := am_t5 115 rfl rfl
theorem ok_X9_lastFrom : am_okM mX9_lastFrom 0 := ⟨hw_X9_lastFrom, am_t1 7 rfl rfl, by decide +kernel, by decide +kernel, by decide⟩
theorem in_X9_lastFrom : Cond.instanceMethod mX9_lastFrom.1 ∈ am_tg := am_t5 113 rfl rfl
theorem se_X9_lastFrom : Cond.selects mX9_lastFrom.1.cls mX9_lastFrom.1 mX9_lastFrom.1 ∈ am_tg := am_t5 114 rfl rfl
def mX9_from : am_M := (yX9_from, cX9_from, 2, some .int, [])
theorem tmX9_from : am_all mX9_from.2.1 ttX9_from = true := tkX9_from
theorem hw_X9_from : Cond.code yX9_from cX9_from 2 (some .int) ∈ am_tg := am_t5 119 rfl rfl
theorem ok_X9_from : am_okM mX9_from 1 := ⟨hw_X9_from, am_t1 7 rfl rfl, by decide +kernel, by decide +kernel, by decide⟩
theorem in_X9_from : Cond.instanceMethod mX9_from.1 ∈ am_tg := am_t5 117 rfl rfl
theorem se_X9_from : Cond.selects mX9_from.1.cls mX9_from.1 mX9_from.1 ∈ am_tg := am_t5 118 rfl rfl
def mX9_lastTo : am_M := (yX9_lastTo, cX9_lastTo, 1, some .int, [])
theorem tmX9_lastTo : am_all mX9_lastTo.2.1 ttX9_lastTo = true := tkX9_lastTo
theorem hw_X9_lastTo : Cond.code yX9_lastTo cX9_lastTo 1 (some .int) ∈ am_tg := am_t5 123 rfl rfl
theorem ok_X9_lastTo : am_okM mX9_lastTo 0 := ⟨hw_X9_lastTo, am_t1 7 rfl rfl, by decide +kernel, by decide +kernel, by decide⟩
theorem in_X9_lastTo : Cond.instanceMethod mX9_lastTo.1 ∈ am_tg := am_t5 121 rfl rfl
theorem se_X9_lastTo : Cond.selects mX9_lastTo.1.cls mX9_lastTo.1 mX9_lastTo.1 ∈ am_tg := am_t5 122 rfl rfl
def mX9_to : am_M := (yX9_to, cX9_to, 2, some .int, [])
theorem tmX9_to : am_all mX9_to.2.1 ttX9_to = true := tkX9_to
theorem hw_X9_to : Cond.code yX9_to cX9_to 2 (some .int) ∈ am_tg := am_t5 127 rfl rfl
theorem ok_X9_to : am_okM mX9_to 1 := ⟨hw_X9_to, am_t1 7 rfl rfl, by decide +kernel, by decide +kernel, by decide⟩
theorem in_X9_to : Cond.instanceMethod mX9_to.1 ∈ am_tg := am_t5 125 rfl rfl
theorem se_X9_to : Cond.selects mX9_to.1.cls mX9_to.1 mX9_to.1 ∈ am_tg := am_t5 126 rfl rfl
def mX1_freeSound : am_M := (yX1_freeSound, cX1_freeSound, 1, some (.object RX7), [])
theorem tmX1_freeSound : am_all mX1_freeSound.2.1 ttX1_freeSound = true := tkX1_freeSound
theorem hw_X1_freeSound : Cond.code yX1_freeSound cX1_freeSound 1 (some (.object RX7)) ∈ am_tg := am_t2 229 rfl rfl
theorem ok_X1_freeSound : am_okM mX1_freeSound 0 := ⟨hw_X1_freeSound, am_t1 2 rfl rfl, by decide +kernel, by decide +kernel, by decide⟩
theorem in_X1_freeSound : Cond.instanceMethod mX1_freeSound.1 ∈ am_tg := am_t2 227 rfl rfl
theorem se_X1_freeSound : Cond.selects mX1_freeSound.1.cls mX1_freeSound.1 mX1_freeSound.1 ∈ am_tg := am_t2 228 rfl rfl
def mX1_freeMap : am_M := (yX1_freeMap, cX1_freeMap, 1, some (.object RX9), [])
theorem tmX1_freeMap : am_all mX1_freeMap.2.1 ttX1_freeMap = true := tkX1_freeMap
theorem hw_X1_freeMap : Cond.code yX1_freeMap cX1_freeMap 1 (some (.object RX9)) ∈ am_tg := am_t5 102 rfl rfl
theorem ok_X1_freeMap : am_okM mX1_freeMap 0 := ⟨hw_X1_freeMap, am_t1 2 rfl rfl, by decide +kernel, by decide +kernel, by decide⟩
theorem in_X1_freeMap : Cond.instanceMethod mX1_freeMap.1 ∈ am_tg := am_t5 100 rfl rfl
theorem se_X1_freeMap : Cond.selects mX1_freeMap.1.cls mX1_freeMap.1 mX1_freeMap.1 ∈ am_tg := am_t5 101 rfl rfl
def mX1_takeSound : am_M := (yX1_takeSound, cX1_takeSound, 1, some .int, [])
theorem tmX1_takeSound : am_all mX1_takeSound.2.1 ttX1_takeSound = true := tkX1_takeSound
theorem hw_X1_takeSound : Cond.code yX1_takeSound cX1_takeSound 1 (some .int) ∈ am_tg := am_t3 11 rfl rfl
theorem ok_X1_takeSound : am_okM mX1_takeSound 0 := ⟨hw_X1_takeSound, am_t1 2 rfl rfl, by decide +kernel, by decide +kernel, by decide⟩
theorem in_X1_takeSound : Cond.instanceMethod mX1_takeSound.1 ∈ am_tg := am_t3 9 rfl rfl
theorem se_X1_takeSound : Cond.selects mX1_takeSound.1.cls mX1_takeSound.1 mX1_takeSound.1 ∈ am_tg := am_t3 10 rfl rfl
def mX1_takeMap : am_M := (yX1_takeMap, cX1_takeMap, 1, some .int, [])
theorem tmX1_takeMap : am_all mX1_takeMap.2.1 ttX1_takeMap = true := tkX1_takeMap
theorem hw_X1_takeMap : Cond.code yX1_takeMap cX1_takeMap 1 (some .int) ∈ am_tg := am_t5 135 rfl rfl
theorem ok_X1_takeMap : am_okM mX1_takeMap 0 := ⟨hw_X1_takeMap, am_t1 2 rfl rfl, by decide +kernel, by decide +kernel, by decide⟩
theorem in_X1_takeMap : Cond.instanceMethod mX1_takeMap.1 ∈ am_tg := am_t5 133 rfl rfl
theorem se_X1_takeMap : Cond.selects mX1_takeMap.1.cls mX1_takeMap.1 mX1_takeMap.1 ∈ am_tg := am_t5 134 rfl rfl
def mX1_nearestHum : am_M := (yX1_nearestHum, cX1_nearestHum, 6, some .int, [])
theorem tmX1_nearestHum : am_all mX1_nearestHum.2.1 ttX1_nearestHum = true := tkX1_nearestHum
theorem hw_X1_nearestHum : Cond.code yX1_nearestHum cX1_nearestHum 6 (some .int) ∈ am_tg := am_t7 99 rfl rfl
theorem ok_X1_nearestHum : am_okM mX1_nearestHum 2 := ⟨hw_X1_nearestHum, am_t1 2 rfl rfl, by decide +kernel, by decide +kernel, by decide⟩
theorem in_X1_nearestHum : Cond.instanceMethod mX1_nearestHum.1 ∈ am_tg := am_t7 97 rfl rfl
theorem se_X1_nearestHum : Cond.selects mX1_nearestHum.1.cls mX1_nearestHum.1 mX1_nearestHum.1 ∈ am_tg := am_t7 98 rfl rfl
def mX1_humFar : am_M := (yX1_humFar, cX1_humFar, 3, some .int, [])
theorem tmX1_humFar : am_all mX1_humFar.2.1 ttX1_humFar = true := tkX1_humFar
theorem hw_X1_humFar : Cond.code yX1_humFar cX1_humFar 3 (some .int) ∈ am_tg := am_t7 103 rfl rfl
theorem ok_X1_humFar : am_okM mX1_humFar 2 := ⟨hw_X1_humFar, am_t1 2 rfl rfl, by decide +kernel, by decide +kernel, by decide⟩
theorem in_X1_humFar : Cond.instanceMethod mX1_humFar.1 ∈ am_tg := am_t7 101 rfl rfl
theorem se_X1_humFar : Cond.selects mX1_humFar.1.cls mX1_humFar.1 mX1_humFar.1 ∈ am_tg := am_t7 102 rfl rfl
def mX11_far : am_M := (yX11_far, cX11_far, 2, some .int, [])
theorem tmX11_far : am_all mX11_far.2.1 ttX11_far = true := tkX11_far
theorem hw_X11_far : Cond.code yX11_far cX11_far 2 (some .int) ∈ am_tg := am_t3 44 rfl rfl
theorem ok_X11_far : am_okM mX11_far 2 := ⟨hw_X11_far, am_t1 1 rfl rfl, by decide +kernel, by decide +kernel, by decide⟩
theorem st_X11_far : Cond.static mX11_far.1 ∈ am_tg := am_t3 43 rfl rfl
def mX2_find : am_M := (yX2_find, cX2_find, 3, none, [])
theorem tmX2_find : am_all mX2_find.2.1 ttX2_find = true := tkX2_find
theorem hw_X2_find : Cond.code yX2_find cX2_find 3 (none) ∈ am_tg := am_t7 51 rfl rfl
theorem ok_X2_find : am_okM mX2_find 1 := ⟨hw_X2_find, am_t1 12 rfl rfl, by decide +kernel, by decide +kernel, by decide⟩
theorem in_X2_find : Cond.instanceMethod mX2_find.1 ∈ am_tg := am_t7 49 rfl rfl
theorem se_X2_find : Cond.selects mX2_find.1.cls mX2_find.1 mX2_find.1 ∈ am_tg := am_t7 50 rfl rfl
def mX2_at : am_M := (yX2_at, cX2_at, 2, some .int, [])
theorem tmX2_at : am_all mX2_at.2.1 ttX2_at = true := tkX2_at
theorem hw_X2_at : Cond.code yX2_at cX2_at 2 (some .int) ∈ am_tg := am_t7 56 rfl rfl
theorem ok_X2_at : am_okM mX2_at 1 := ⟨hw_X2_at, am_t1 12 rfl rfl, by decide +kernel, by decide +kernel, by decide⟩
theorem in_X2_at : Cond.instanceMethod mX2_at.1 ∈ am_tg := am_t7 54 rfl rfl
theorem se_X2_at : Cond.selects mX2_at.1.cls mX2_at.1 mX2_at.1 ∈ am_tg := am_t7 55 rfl rfl
def mX2_intervals : am_M := (yX2_intervals, cX2_intervals, 1, some .int, [])
theorem tmX2_intervals : am_all mX2_intervals.2.1 ttX2_intervals = true := tkX2_intervals
theorem hw_X2_intervals : Cond.code yX2_intervals cX2_intervals 1 (some .int) ∈ am_tg := am_t7 71 rfl rfl
theorem ok_X2_intervals : am_okM mX2_intervals 0 := ⟨hw_X2_intervals, am_t1 12 rfl rfl, by decide +kernel, by decide +kernel, by decide⟩
theorem in_X2_intervals : Cond.instanceMethod mX2_intervals.1 ∈ am_tg := am_t7 69 rfl rfl
theorem se_X2_intervals : Cond.selects mX2_intervals.1.cls mX2_intervals.1 mX2_intervals.1 ∈ am_tg := am_t7 70 rfl rfl
def mX2_interval : am_M := (yX2_interval, cX2_interval, 2, some .int, [])
theorem tmX2_interval : am_all mX2_interval.2.1 ttX2_interval = true := tkX2_interval
theorem hw_X2_interval : Cond.code yX2_interval cX2_interval 2 (some .int) ∈ am_tg := am_t7 131 rfl rfl
theorem ok_X2_interval : am_okM mX2_interval 1 := ⟨hw_X2_interval, am_t1 12 rfl rfl, by decide +kernel, by decide +kernel, by decide⟩
theorem in_X2_interval : Cond.instanceMethod mX2_interval.1 ∈ am_tg := am_t7 130 rfl rfl
theorem se_X2_interval : Cond.selects mX2_interval.1.cls mX2_interval.1 mX2_interval.1 ∈ am_tg := am_tg_in (List.mem_append_left _ (by decide +kernel)) (by decide +kernel)
def mX2_across : am_M := (yX2_across, cX2_across, 1, some .int, [])
theorem tmX2_across : am_all mX2_across.2.1 ttX2_across = true := tkX2_across
theorem hw_X2_across : Cond.code yX2_across cX2_across 1 (some .int) ∈ am_tg := am_t7 76 rfl rfl
theorem ok_X2_across : am_okM mX2_across 0 := ⟨hw_X2_across, am_t1 12 rfl rfl, by decide +kernel, by decide +kernel, by decide⟩
theorem in_X2_across : Cond.instanceMethod mX2_across.1 ∈ am_tg := am_t7 75 rfl rfl
theorem se_X2_across : Cond.selects mX2_across.1.cls mX2_across.1 mX2_across.1 ∈ am_tg := am_tg_in (List.mem_append_left _ (by decide +kernel)) (by decide +kernel)
def mX2_hundredths : am_M := (yX2_hundredths, cX2_hundredths, 1, some .int, [])
theorem tmX2_hundredths : am_all mX2_hundredths.2.1 ttX2_hundredths = true := tkX2_hundredths
theorem hw_X2_hundredths : Cond.code yX2_hundredths cX2_hundredths 1 (some .int) ∈ am_tg := am_t7 67 rfl rfl
theorem ok_X2_hundredths : am_okM mX2_hundredths 0 := ⟨hw_X2_hundredths, am_t1 12 rfl rfl, by decide +kernel, by decide +kernel, by decide⟩
theorem in_X2_hundredths : Cond.instanceMethod mX2_hundredths.1 ∈ am_tg := am_t7 65 rfl rfl
theorem se_X2_hundredths : Cond.selects mX2_hundredths.1.cls mX2_hundredths.1 mX2_hundredths.1 ∈ am_tg := am_t7 66 rfl rfl
def mX2_turns : am_M := (yX2_turns, cX2_turns, 8, some .int, [])
theorem tmX2_turns : am_all mX2_turns.2.1 ttX2_turns = true := tkX2_turns
theorem hw_X2_turns : Cond.code yX2_turns cX2_turns 8 (some .int) ∈ am_tg := am_t7 127 rfl rfl
theorem ok_X2_turns : am_okM mX2_turns 0 := ⟨hw_X2_turns, am_t1 12 rfl rfl, by decide +kernel, by decide +kernel, by decide⟩
theorem in_X2_turns : Cond.instanceMethod mX2_turns.1 ∈ am_tg := am_t7 125 rfl rfl
theorem se_X2_turns : Cond.selects mX2_turns.1.cls mX2_turns.1 mX2_turns.1 ∈ am_tg := am_t7 126 rfl rfl
def mX2_swing : am_M := (yX2_swing, cX2_swing, 4, some .int, [])
theorem tmX2_swing : am_all mX2_swing.2.1 ttX2_swing = true := tkX2_swing
theorem hw_X2_swing : Cond.code yX2_swing cX2_swing 4 (some .int) ∈ am_tg := am_t7 136 rfl rfl
theorem ok_X2_swing : am_okM mX2_swing 0 := ⟨hw_X2_swing, am_t1 12 rfl rfl, by decide +kernel, by decide +kernel, by decide⟩
theorem in_X2_swing : Cond.instanceMethod mX2_swing.1 ∈ am_tg := am_t7 134 rfl rfl
theorem se_X2_swing : Cond.selects mX2_swing.1.cls mX2_swing.1 mX2_swing.1 ∈ am_tg := am_t7 135 rfl rfl
def mX2_intoMap : am_M := (yX2_intoMap, cX2_intoMap, 7, none, [])
theorem tmX2_intoMap : am_all mX2_intoMap.2.1 ttX2_intoMap = true := tkX2_intoMap
theorem hw_X2_intoMap : Cond.code yX2_intoMap cX2_intoMap 7 (none) ∈ am_tg := am_t8 58 rfl rfl
theorem ok_X2_intoMap : am_okM mX2_intoMap 1 := ⟨hw_X2_intoMap, am_t1 12 rfl rfl, by decide +kernel, by decide +kernel, by decide⟩
theorem in_X2_intoMap : Cond.instanceMethod mX2_intoMap.1 ∈ am_tg := am_t8 56 rfl rfl
theorem se_X2_intoMap : Cond.selects mX2_intoMap.1.cls mX2_intoMap.1 mX2_intoMap.1 ∈ am_tg := am_t8 57 rfl rfl
def mX2_addSteadied : am_M := (yX2_addSteadied, cX2_addSteadied, 4, none, [])
theorem tmX2_addSteadied : am_all mX2_addSteadied.2.1 ttX2_addSteadied = true := tkX2_addSteadied
theorem hw_X2_addSteadied : Cond.code yX2_addSteadied cX2_addSteadied 4 (none) ∈ am_tg := am_t8 64 rfl rfl
theorem ok_X2_addSteadied : am_okM mX2_addSteadied 2 := ⟨hw_X2_addSteadied, am_t1 12 rfl rfl, by decide +kernel, by decide +kernel, by decide⟩
theorem in_X2_addSteadied : Cond.instanceMethod mX2_addSteadied.1 ∈ am_tg := am_t8 63 rfl rfl
theorem se_X2_addSteadied : Cond.selects mX2_addSteadied.1.cls mX2_addSteadied.1 mX2_addSteadied.1 ∈ am_tg := am_tg_in (List.mem_append_left _ (by decide +kernel)) (by decide +kernel)
def mX3_clear : am_M := (yX3_clear, cX3_clear, 1, none, [])
theorem tmX3_clear : am_all mX3_clear.2.1 ttX3_clear = true := tkX3_clear
theorem hw_X3_clear : Cond.code yX3_clear cX3_clear 1 (none) ∈ am_tg := am_t3 76 rfl rfl
theorem ok_X3_clear : am_okM mX3_clear 0 := ⟨hw_X3_clear, am_t1 10 rfl rfl, by decide +kernel, by decide +kernel, by decide⟩
theorem in_X3_clear : Cond.instanceMethod mX3_clear.1 ∈ am_tg := am_t3 74 rfl rfl
theorem se_X3_clear : Cond.selects mX3_clear.1.cls mX3_clear.1 mX3_clear.1 ∈ am_tg := am_t3 75 rfl rfl
def mX7_start : am_M := (yX7_start, cX7_start, 2, none, [])
theorem tmX7_start : am_all mX7_start.2.1 ttX7_start = true := tkX7_start
theorem hw_X7_start : Cond.code yX7_start cX7_start 2 (none) ∈ am_tg := am_t3 80 rfl rfl
theorem ok_X7_start : am_okM mX7_start 1 := ⟨hw_X7_start, am_t1 5 rfl rfl, by decide +kernel, by decide +kernel, by decide⟩
theorem in_X7_start : Cond.instanceMethod mX7_start.1 ∈ am_tg := am_t3 78 rfl rfl
theorem se_X7_start : Cond.selects mX7_start.1.cls mX7_start.1 mX7_start.1 ∈ am_tg := am_t3 79 rfl rfl
def mJ7_fill_fda19 : am_M := (yJ7_fill_fda19, cJ7_fill_fda19, 5, none, [])
theorem tmJ7_fill_fda19 : am_all mJ7_fill_fda19.2.1 ttJ7_fill_fda19 = true := tkJ7_fill_fda19
theorem hw_J7_fill_fda19 : Cond.code yJ7_fill_fda19 cJ7_fill_fda19 5 (none) ∈ am_tg := am_t3 83 rfl rfl
theorem ok_J7_fill_fda19 : am_okM mJ7_fill_fda19 4 := ⟨hw_J7_fill_fda19, am_t1 19 rfl rfl, by decide +kernel, by decide +kernel, by decide⟩
theorem st_J7_fill_fda19 : Cond.static mJ7_fill_fda19.1 ∈ am_tg := am_t3 82 rfl rfl
def mJ7_rangeCheck_23922 : am_M := (yJ7_rangeCheck_23922, cJ7_rangeCheck_23922, 3, none, [])
theorem tmJ7_rangeCheck_23922 : am_all mJ7_rangeCheck_23922.2.1 ttJ7_rangeCheck_23922 = true := tkJ7_rangeCheck_23922
theorem hw_J7_rangeCheck_23922 : Cond.code yJ7_rangeCheck_23922 cJ7_rangeCheck_23922 3 (none) ∈ am_tg := am_t3 86 rfl rfl
theorem ok_J7_rangeCheck_23922 : am_okM mJ7_rangeCheck_23922 3 := ⟨hw_J7_rangeCheck_23922, am_t1 19 rfl rfl, by decide +kernel, by decide +kernel, by decide⟩
theorem st_J7_rangeCheck_23922 : Cond.static mJ7_rangeCheck_23922.1 ∈ am_tg := am_t3 85 rfl rfl
def mX11_bounded : am_M := (yX11_bounded, cX11_bounded, 3, some .int, [])
theorem tmX11_bounded : am_all mX11_bounded.2.1 ttX11_bounded = true := tkX11_bounded
theorem hw_X11_bounded : Cond.code yX11_bounded cX11_bounded 3 (some .int) ∈ am_tg := am_t3 2 rfl rfl
theorem ok_X11_bounded : am_okM mX11_bounded 3 := ⟨hw_X11_bounded, am_t1 1 rfl rfl, by decide +kernel, by decide +kernel, by decide⟩
theorem st_X11_bounded : Cond.static mX11_bounded.1 ∈ am_tg := am_t3 1 rfl rfl
def mX3_drawOut : am_M := (yX3_drawOut, cX3_drawOut, 5, none, [])
theorem tmX3_drawOut_0 : am_all mX3_drawOut.2.1 ttX3_drawOut_0 = true := tkX3_drawOut_0
theorem tmX3_drawOut_1 : am_all mX3_drawOut.2.1 ttX3_drawOut_1 = true := tkX3_drawOut_1
theorem hw_X3_drawOut : Cond.code yX3_drawOut cX3_drawOut 5 (none) ∈ am_tg := am_t6 25 rfl rfl
theorem ok_X3_drawOut : am_okM mX3_drawOut 3 := ⟨hw_X3_drawOut, am_t1 10 rfl rfl, by decide +kernel, by decide +kernel, by decide⟩
theorem in_X3_drawOut : Cond.instanceMethod mX3_drawOut.1 ∈ am_tg := am_t6 23 rfl rfl
theorem se_X3_drawOut : Cond.selects mX3_drawOut.1.cls mX3_drawOut.1 mX3_drawOut.1 ∈ am_tg := am_t6 24 rfl rfl
def mX3_layPiece : am_M := (yX3_layPiece, cX3_layPiece, 7, none, [])
theorem tmX3_layPiece_0 : am_all mX3_layPiece.2.1 ttX3_layPiece_0 = true := tkX3_layPiece_0
theorem tmX3_layPiece_1 : am_all mX3_layPiece.2.1 ttX3_layPiece_1 = true := tkX3_layPiece_1
theorem hw_X3_layPiece : Cond.code yX3_layPiece cX3_layPiece 7 (none) ∈ am_tg := am_t6 42 rfl rfl
theorem ok_X3_layPiece : am_okM mX3_layPiece 2 := ⟨hw_X3_layPiece, am_t1 10 rfl rfl, by decide +kernel, by decide +kernel, by decide⟩
theorem in_X3_layPiece : Cond.instanceMethod mX3_layPiece.1 ∈ am_tg := am_t6 41 rfl rfl
theorem se_X3_layPiece : Cond.selects mX3_layPiece.1.cls mX3_layPiece.1 mX3_layPiece.1 ∈ am_tg := am_tg_in (List.mem_append_left _ (by decide +kernel)) (by decide +kernel)
def mX3_bestOffset : am_M := (yX3_bestOffset, cX3_bestOffset, 11, some .int, [])
theorem tmX3_bestOffset_0 : am_all mX3_bestOffset.2.1 ttX3_bestOffset_0 = true := tkX3_bestOffset_0
theorem tmX3_bestOffset_1 : am_all mX3_bestOffset.2.1 ttX3_bestOffset_1 = true := tkX3_bestOffset_1
theorem hw_X3_bestOffset : Cond.code yX3_bestOffset cX3_bestOffset 11 (some .int) ∈ am_tg := am_t6 48 rfl rfl
theorem ok_X3_bestOffset : am_okM mX3_bestOffset 4 := ⟨hw_X3_bestOffset, am_t1 10 rfl rfl, by decide +kernel, by decide +kernel, by decide⟩
theorem in_X3_bestOffset : Cond.instanceMethod mX3_bestOffset.1 ∈ am_tg := am_t6 47 rfl rfl
theorem se_X3_bestOffset : Cond.selects mX3_bestOffset.1.cls mX3_bestOffset.1 mX3_bestOffset.1 ∈ am_tg := am_tg_in (List.mem_append_left _ (by decide +kernel)) (by decide +kernel)
def mX11_within : am_M := (yX11_within, cX11_within, 3, some .boolean, [])
theorem tmX11_within : am_all mX11_within.2.1 ttX11_within = true := tkX11_within
theorem hw_X11_within : Cond.code yX11_within cX11_within 3 (some .boolean) ∈ am_tg := am_t2 232 rfl rfl
theorem ok_X11_within : am_okM mX11_within 3 := ⟨hw_X11_within, am_t1 1 rfl rfl, by decide +kernel, by decide +kernel, by decide⟩
theorem st_X11_within : Cond.static mX11_within.1 ∈ am_tg := am_t2 231 rfl rfl
def mX7_unlike : am_M := (yX7_unlike, cX7_unlike, 7, some .int, [])
theorem tmX7_unlike : am_all mX7_unlike.2.1 ttX7_unlike = true := tkX7_unlike
theorem hw_X7_unlike : Cond.code yX7_unlike cX7_unlike 7 (some .int) ∈ am_tg := am_t6 54 rfl rfl
theorem ok_X7_unlike : am_okM mX7_unlike 4 := ⟨hw_X7_unlike, am_t1 5 rfl rfl, by decide +kernel, by decide +kernel, by decide⟩
theorem in_X7_unlike : Cond.instanceMethod mX7_unlike.1 ∈ am_tg := am_t6 52 rfl rfl
theorem se_X7_unlike : Cond.selects mX7_unlike.1.cls mX7_unlike.1 mX7_unlike.1 ∈ am_tg := am_t6 53 rfl rfl
def mX7_fadeIn : am_M := (yX7_fadeIn, cX7_fadeIn, 7, none, [])
theorem tmX7_fadeIn : am_all mX7_fadeIn.2.1 ttX7_fadeIn = true := tkX7_fadeIn
theorem hw_X7_fadeIn : Cond.code yX7_fadeIn cX7_fadeIn 7 (none) ∈ am_tg := am_t6 58 rfl rfl
theorem ok_X7_fadeIn : am_okM mX7_fadeIn 4 := ⟨hw_X7_fadeIn, am_t1 5 rfl rfl, by decide +kernel, by decide +kernel, by decide⟩
theorem in_X7_fadeIn : Cond.instanceMethod mX7_fadeIn.1 ∈ am_tg := am_t6 56 rfl rfl
theorem se_X7_fadeIn : Cond.selects mX7_fadeIn.1.cls mX7_fadeIn.1 mX7_fadeIn.1 ∈ am_tg := am_t6 57 rfl rfl
def mX7_put : am_M := (yX7_put, cX7_put, 3, none, [])
theorem tmX7_put : am_all mX7_put.2.1 ttX7_put = true := tkX7_put
theorem hw_X7_put : Cond.code yX7_put cX7_put 3 (none) ∈ am_tg := am_t5 65 rfl rfl
theorem ok_X7_put : am_okM mX7_put 2 := ⟨hw_X7_put, am_t1 5 rfl rfl, by decide +kernel, by decide +kernel, by decide⟩
theorem in_X7_put : Cond.instanceMethod mX7_put.1 ∈ am_tg := am_t5 63 rfl rfl
theorem se_X7_put : Cond.selects mX7_put.1.cls mX7_put.1 mX7_put.1 ∈ am_tg := am_t5 64 rfl rfl
def mX7_lay : am_M := (yX7_lay, cX7_lay, 6, none, [])
theorem tmX7_lay : am_all mX7_lay.2.1 ttX7_lay = true := tkX7_lay
theorem hw_X7_lay : Cond.code yX7_lay cX7_lay 6 (none) ∈ am_tg := am_t6 37 rfl rfl
theorem ok_X7_lay : am_okM mX7_lay 4 := ⟨hw_X7_lay, am_t1 5 rfl rfl, by decide +kernel, by decide +kernel, by decide⟩
theorem in_X7_lay : Cond.instanceMethod mX7_lay.1 ∈ am_tg := am_t6 35 rfl rfl
theorem se_X7_lay : Cond.selects mX7_lay.1.cls mX7_lay.1 mX7_lay.1 ∈ am_tg := am_t6 36 rfl rfl
def mX9_placeOf : am_M := (yX9_placeOf, cX9_placeOf, 5, some .int, [])
theorem tmX9_placeOf : am_all mX9_placeOf.2.1 ttX9_placeOf = true := tkX9_placeOf
theorem hw_X9_placeOf : Cond.code yX9_placeOf cX9_placeOf 5 (some .int) ∈ am_tg := am_t5 209 rfl rfl
theorem ok_X9_placeOf : am_okM mX9_placeOf 1 := ⟨hw_X9_placeOf, am_t1 7 rfl rfl, by decide +kernel, by decide +kernel, by decide⟩
theorem in_X9_placeOf : Cond.instanceMethod mX9_placeOf.1 ∈ am_tg := am_t5 207 rfl rfl
theorem se_X9_placeOf : Cond.selects mX9_placeOf.1.cls mX9_placeOf.1 mX9_placeOf.1 ∈ am_tg := am_t5 208 rfl rfl
def mX7_copyFrom : am_M := (yX7_copyFrom, cX7_copyFrom, 2, none, [])
theorem tmX7_copyFrom : am_all mX7_copyFrom.2.1 ttX7_copyFrom = true := tkX7_copyFrom
theorem hw_X7_copyFrom : Cond.code yX7_copyFrom cX7_copyFrom 2 (none) ∈ am_tg := am_t2 236 rfl rfl
theorem ok_X7_copyFrom : am_okM mX7_copyFrom 1 := ⟨hw_X7_copyFrom, am_t1 5 rfl rfl, by decide +kernel, by decide +kernel, by decide⟩
theorem in_X7_copyFrom : Cond.instanceMethod mX7_copyFrom.1 ∈ am_tg := am_t2 234 rfl rfl
theorem se_X7_copyFrom : Cond.selects mX7_copyFrom.1.cls mX7_copyFrom.1 mX7_copyFrom.1 ∈ am_tg := am_t2 235 rfl rfl
def mX9_copyFrom : am_M := (yX9_copyFrom, cX9_copyFrom, 2, none, [])
theorem tmX9_copyFrom : am_all mX9_copyFrom.2.1 ttX9_copyFrom = true := tkX9_copyFrom
theorem hw_X9_copyFrom : Cond.code yX9_copyFrom cX9_copyFrom 2 (none) ∈ am_tg := am_t6 30 rfl rfl
theorem ok_X9_copyFrom : am_okM mX9_copyFrom 1 := ⟨hw_X9_copyFrom, am_t1 7 rfl rfl, by decide +kernel, by decide +kernel, by decide⟩
theorem in_X9_copyFrom : Cond.instanceMethod mX9_copyFrom.1 ∈ am_tg := am_t6 28 rfl rfl
theorem se_X9_copyFrom : Cond.selects mX9_copyFrom.1.cls mX9_copyFrom.1 mX9_copyFrom.1 ∈ am_tg := am_t6 29 rfl rfl
def mX3_moveBlows : am_M := (yX3_moveBlows, cX3_moveBlows, 7, some .int, [])
theorem tmX3_moveBlows : am_all mX3_moveBlows.2.1 ttX3_moveBlows = true := tkX3_moveBlows
theorem hw_X3_moveBlows : Cond.code yX3_moveBlows cX3_moveBlows 7 (some .int) ∈ am_tg := am_t6 70 rfl rfl
theorem ok_X3_moveBlows : am_okM mX3_moveBlows 2 := ⟨hw_X3_moveBlows, am_t1 10 rfl rfl, by decide +kernel, by decide +kernel, by decide⟩
theorem in_X3_moveBlows : Cond.instanceMethod mX3_moveBlows.1 ∈ am_tg := am_t6 68 rfl rfl
theorem se_X3_moveBlows : Cond.selects mX3_moveBlows.1.cls mX3_moveBlows.1 mX3_moveBlows.1 ∈ am_tg := am_t6 69 rfl rfl
def mX9_whereOf : am_M := (yX9_whereOf, cX9_whereOf, 6, some .int, [])
theorem tmX9_whereOf : am_all mX9_whereOf.2.1 ttX9_whereOf = true := tkX9_whereOf
theorem hw_X9_whereOf : Cond.code yX9_whereOf cX9_whereOf 6 (some .int) ∈ am_tg := am_t5 221 rfl rfl
theorem ok_X9_whereOf : am_okM mX9_whereOf 1 := ⟨hw_X9_whereOf, am_t1 7 rfl rfl, by decide +kernel, by decide +kernel, by decide⟩
theorem in_X9_whereOf : Cond.instanceMethod mX9_whereOf.1 ∈ am_tg := am_t5 219 rfl rfl
theorem se_X9_whereOf : Cond.selects mX9_whereOf.1.cls mX9_whereOf.1 mX9_whereOf.1 ∈ am_tg := am_t5 220 rfl rfl
def mX3_singOut : am_M := (yX3_singOut, cX3_singOut, 7, none, [])
theorem tmX3_singOut : am_all mX3_singOut.2.1 ttX3_singOut = true := tkX3_singOut
theorem hw_X3_singOut : Cond.code yX3_singOut cX3_singOut 7 (none) ∈ am_tg := am_t7 35 rfl rfl
theorem ok_X3_singOut : am_okM mX3_singOut 4 := ⟨hw_X3_singOut, am_t1 10 rfl rfl, by decide +kernel, by decide +kernel, by decide⟩
theorem in_X3_singOut : Cond.instanceMethod mX3_singOut.1 ∈ am_tg := am_t7 33 rfl rfl
theorem se_X3_singOut : Cond.selects mX3_singOut.1.cls mX3_singOut.1 mX3_singOut.1 ∈ am_tg := am_t7 34 rfl rfl
def mX11_wave : am_M := (yX11_wave, cX11_wave, 4, some .int, [])
theorem tmX11_wave : am_all mX11_wave.2.1 ttX11_wave = true := tkX11_wave
theorem hw_X11_wave : Cond.code yX11_wave cX11_wave 4 (some .int) ∈ am_tg := am_t5 55 rfl rfl
theorem ok_X11_wave : am_okM mX11_wave 3 := ⟨hw_X11_wave, am_t1 1 rfl rfl, by decide +kernel, by decide +kernel, by decide⟩
theorem st_X11_wave : Cond.static mX11_wave.1 ∈ am_tg := am_t5 54 rfl rfl
def mX3_seamTold : am_M := (yX3_seamTold, cX3_seamTold, 3, some .int, [])
theorem tmX3_seamTold : am_all mX3_seamTold.2.1 ttX3_seamTold = true := tkX3_seamTold
theorem hw_X3_seamTold : Cond.code yX3_seamTold cX3_seamTold 3 (some .int) ∈ am_tg := am_t6 86 rfl rfl
theorem ok_X3_seamTold : am_okM mX3_seamTold 2 := ⟨hw_X3_seamTold, am_t1 10 rfl rfl, by decide +kernel, by decide +kernel, by decide⟩
theorem in_X3_seamTold : Cond.instanceMethod mX3_seamTold.1 ∈ am_tg := am_t6 84 rfl rfl
theorem se_X3_seamTold : Cond.selects mX3_seamTold.1.cls mX3_seamTold.1 mX3_seamTold.1 ∈ am_tg := am_t6 85 rfl rfl
def mX3_unlikeTogether : am_M := (yX3_unlikeTogether, cX3_unlikeTogether, 5, some .int, [])
theorem tmX3_unlikeTogether : am_all mX3_unlikeTogether.2.1 ttX3_unlikeTogether = true := tkX3_unlikeTogether
theorem hw_X3_unlikeTogether : Cond.code yX3_unlikeTogether cX3_unlikeTogether 5 (some .int) ∈ am_tg := am_t6 120 rfl rfl
theorem ok_X3_unlikeTogether : am_okM mX3_unlikeTogether 2 := ⟨hw_X3_unlikeTogether, am_t1 10 rfl rfl, by decide +kernel, by decide +kernel, by decide⟩
theorem in_X3_unlikeTogether : Cond.instanceMethod mX3_unlikeTogether.1 ∈ am_tg := am_t6 118 rfl rfl
theorem se_X3_unlikeTogether : Cond.selects mX3_unlikeTogether.1.cls mX3_unlikeTogether.1 mX3_unlikeTogether.1 ∈ am_tg := am_t6 119 rfl rfl
def mX3_smearTogether : am_M := (yX3_smearTogether, cX3_smearTogether, 10, some .int, [])
theorem tmX3_smearTogether : am_all mX3_smearTogether.2.1 ttX3_smearTogether = true := tkX3_smearTogether
theorem hw_X3_smearTogether : Cond.code yX3_smearTogether cX3_smearTogether 10 (some .int) ∈ am_tg := am_t6 124 rfl rfl
theorem ok_X3_smearTogether : am_okM mX3_smearTogether 2 := ⟨hw_X3_smearTogether, am_t1 10 rfl rfl, by decide +kernel, by decide +kernel, by decide⟩
theorem in_X3_smearTogether : Cond.instanceMethod mX3_smearTogether.1 ∈ am_tg := am_t6 122 rfl rfl
theorem se_X3_smearTogether : Cond.selects mX3_smearTogether.1.cls mX3_smearTogether.1 mX3_smearTogether.1 ∈ am_tg := am_t6 123 rfl rfl
def mX3_halfLoud : am_M := (yX3_halfLoud, cX3_halfLoud, 6, some .int, [])
theorem tmX3_halfLoud : am_all mX3_halfLoud.2.1 ttX3_halfLoud = true := tkX3_halfLoud
theorem hw_X3_halfLoud : Cond.code yX3_halfLoud cX3_halfLoud 6 (some .int) ∈ am_tg := am_t6 128 rfl rfl
theorem ok_X3_halfLoud : am_okM mX3_halfLoud 4 := ⟨hw_X3_halfLoud, am_t1 10 rfl rfl, by decide +kernel, by decide +kernel, by decide⟩
theorem st_X3_halfLoud : Cond.static mX3_halfLoud.1 ∈ am_tg := am_t6 127 rfl rfl
def mX3_ringTogether : am_M := (yX3_ringTogether, cX3_ringTogether, 4, some .int, [])
theorem tmX3_ringTogether : am_all mX3_ringTogether.2.1 ttX3_ringTogether = true := tkX3_ringTogether
theorem hw_X3_ringTogether : Cond.code yX3_ringTogether cX3_ringTogether 4 (some .int) ∈ am_tg := am_t6 133 rfl rfl
theorem ok_X3_ringTogether : am_okM mX3_ringTogether 1 := ⟨hw_X3_ringTogether, am_t1 10 rfl rfl, by decide +kernel, by decide +kernel, by decide⟩
theorem in_X3_ringTogether : Cond.instanceMethod mX3_ringTogether.1 ∈ am_tg := am_t6 131 rfl rfl
theorem se_X3_ringTogether : Cond.selects mX3_ringTogether.1.cls mX3_ringTogether.1 mX3_ringTogether.1 ∈ am_tg := am_t6 132 rfl rfl
def mX7_silent : am_M := (yX7_silent, cX7_silent, 4, some .boolean, [])
theorem tmX7_silent : am_all mX7_silent.2.1 ttX7_silent = true := tkX7_silent
theorem hw_X7_silent : Cond.code yX7_silent cX7_silent 4 (some .boolean) ∈ am_tg := am_t6 137 rfl rfl
theorem ok_X7_silent : am_okM mX7_silent 2 := ⟨hw_X7_silent, am_t1 5 rfl rfl, by decide +kernel, by decide +kernel, by decide⟩
theorem in_X7_silent : Cond.instanceMethod mX7_silent.1 ∈ am_tg := am_t6 135 rfl rfl
theorem se_X7_silent : Cond.selects mX7_silent.1.cls mX7_silent.1 mX7_silent.1 ∈ am_tg := am_t6 136 rfl rfl
def mX4_take : am_M := (yX4_take, cX4_take, 2, none, [])
theorem tmX4_take : am_all mX4_take.2.1 ttX4_take = true := tkX4_take
theorem hw_X4_take : Cond.code yX4_take cX4_take 2 (none) ∈ am_tg := am_t3 53 rfl rfl
theorem ok_X4_take : am_okM mX4_take 1 := ⟨hw_X4_take, am_t1 8 rfl rfl, by decide +kernel, by decide +kernel, by decide⟩
theorem in_X4_take : Cond.instanceMethod mX4_take.1 ∈ am_tg := am_t3 51 rfl rfl
theorem se_X4_take : Cond.selects mX4_take.1.cls mX4_take.1 mX4_take.1 ∈ am_tg := am_t3 52 rfl rfl
def mX4_copyCounts : am_M := (yX4_copyCounts, cX4_copyCounts, 3, none, [])
theorem tmX4_copyCounts : am_all mX4_copyCounts.2.1 ttX4_copyCounts = true := tkX4_copyCounts
theorem hw_X4_copyCounts : Cond.code yX4_copyCounts cX4_copyCounts 3 (none) ∈ am_tg := am_t3 64 rfl rfl
theorem ok_X4_copyCounts : am_okM mX4_copyCounts 2 := ⟨hw_X4_copyCounts, am_t1 8 rfl rfl, by decide +kernel, by decide +kernel, by decide⟩
theorem st_X4_copyCounts : Cond.static mX4_copyCounts.1 ∈ am_tg := am_t3 63 rfl rfl
def mX5_copyFrom : am_M := (yX5_copyFrom, cX5_copyFrom, 2, none, [])
theorem tmX5_copyFrom : am_all mX5_copyFrom.2.1 ttX5_copyFrom = true := tkX5_copyFrom
theorem hw_X5_copyFrom : Cond.code yX5_copyFrom cX5_copyFrom 2 (none) ∈ am_tg := am_t3 57 rfl rfl
theorem ok_X5_copyFrom : am_okM mX5_copyFrom 1 := ⟨hw_X5_copyFrom, am_t1 3 rfl rfl, by decide +kernel, by decide +kernel, by decide⟩
theorem in_X5_copyFrom : Cond.instanceMethod mX5_copyFrom.1 ∈ am_tg := am_t3 55 rfl rfl
theorem se_X5_copyFrom : Cond.selects mX5_copyFrom.1.cls mX5_copyFrom.1 mX5_copyFrom.1 ∈ am_tg := am_t3 56 rfl rfl
def mX5_set : am_M := (yX5_set, cX5_set, 4, none, [])
theorem tmX5_set : am_all mX5_set.2.1 ttX5_set = true := tkX5_set
theorem hw_X5_set : Cond.code yX5_set cX5_set 4 (none) ∈ am_tg := am_t3 61 rfl rfl
theorem ok_X5_set : am_okM mX5_set 3 := ⟨hw_X5_set, am_t1 3 rfl rfl, by decide +kernel, by decide +kernel, by decide⟩
theorem in_X5_set : Cond.instanceMethod mX5_set.1 ∈ am_tg := am_t3 59 rfl rfl
theorem se_X5_set : Cond.selects mX5_set.1.cls mX5_set.1 mX5_set.1 ∈ am_tg := am_t3 60 rfl rfl
def mX4_giveBack : am_M := (yX4_giveBack, cX4_giveBack, 2, none, [])
theorem tmX4_giveBack : am_all mX4_giveBack.2.1 ttX4_giveBack = true := tkX4_giveBack
theorem hw_X4_giveBack : Cond.code yX4_giveBack cX4_giveBack 2 (none) ∈ am_tg := am_t3 72 rfl rfl
theorem ok_X4_giveBack : am_okM mX4_giveBack 1 := ⟨hw_X4_giveBack, am_t1 8 rfl rfl, by decide +kernel, by decide +kernel, by decide⟩
theorem in_X4_giveBack : Cond.instanceMethod mX4_giveBack.1 ∈ am_tg := am_t3 70 rfl rfl
theorem se_X4_giveBack : Cond.selects mX4_giveBack.1.cls mX4_giveBack.1 mX4_giveBack.1 ∈ am_tg := am_t3 71 rfl rfl
def mX5_allowed : am_M := (yX5_allowed, cX5_allowed, 3, some .boolean, [])
theorem tmX5_allowed : am_all mX5_allowed.2.1 ttX5_allowed = true := tkX5_allowed
theorem hw_X5_allowed : Cond.code yX5_allowed cX5_allowed 3 (some .boolean) ∈ am_tg := am_t5 233 rfl rfl
theorem ok_X5_allowed : am_okM mX5_allowed 3 := ⟨hw_X5_allowed, am_t1 3 rfl rfl, by decide +kernel, by decide +kernel, by decide⟩
theorem st_X5_allowed : Cond.static mX5_allowed.1 ∈ am_tg := am_t5 232 rfl rfl
def mX6_add : am_M := (yX6_add, cX6_add, 5, none, [])
theorem tmX6_add : am_all mX6_add.2.1 ttX6_add = true := tkX6_add
theorem hw_X6_add : Cond.code yX6_add cX6_add 5 (none) ∈ am_tg := am_t6 185 rfl rfl
theorem ok_X6_add : am_okM mX6_add 4 := ⟨hw_X6_add, am_t1 4 rfl rfl, by decide +kernel, by decide +kernel, by decide⟩
theorem in_X6_add : Cond.instanceMethod mX6_add.1 ∈ am_tg := am_t6 183 rfl rfl
theorem se_X6_add : Cond.selects mX6_add.1.cls mX6_add.1 mX6_add.1 ∈ am_tg := am_t6 184 rfl rfl
def mX6_reach : am_M := (yX6_reach, cX6_reach, 6, some .boolean, [])
theorem tmX6_reach_0 : am_all mX6_reach.2.1 ttX6_reach_0 = true := tkX6_reach_0
theorem tmX6_reach_1 : am_all mX6_reach.2.1 ttX6_reach_1 = true := tkX6_reach_1
theorem hw_X6_reach : Cond.code yX6_reach cX6_reach 6 (some .boolean) ∈ am_tg := am_t6 196 rfl rfl
theorem ok_X6_reach : am_okM mX6_reach 1 := ⟨hw_X6_reach, am_t1 4 rfl rfl, by decide +kernel, by decide +kernel, by decide⟩
theorem in_X6_reach : Cond.instanceMethod mX6_reach.1 ∈ am_tg := am_t6 194 rfl rfl
theorem se_X6_reach : Cond.selects mX6_reach.1.cls mX6_reach.1 mX6_reach.1 ∈ am_tg := am_t6 195 rfl rfl
def mX6_lengthOf : am_M := (yX6_lengthOf, cX6_lengthOf, 2, some .int, [])
theorem tmX6_lengthOf : am_all mX6_lengthOf.2.1 ttX6_lengthOf = true := tkX6_lengthOf
theorem hw_X6_lengthOf : Cond.code yX6_lengthOf cX6_lengthOf 2 (some .int) ∈ am_tg := am_t6 206 rfl rfl
theorem ok_X6_lengthOf : am_okM mX6_lengthOf 1 := ⟨hw_X6_lengthOf, am_t1 4 rfl rfl, by decide +kernel, by decide +kernel, by decide⟩
theorem in_X6_lengthOf : Cond.instanceMethod mX6_lengthOf.1 ∈ am_tg := am_t6 204 rfl rfl
theorem se_X6_lengthOf : Cond.selects mX6_lengthOf.1.cls mX6_lengthOf.1 mX6_lengthOf.1 ∈ am_tg := am_t6 205 rfl rfl
def mX6_weightTogether : am_M := (yX6_weightTogether, cX6_weightTogether, 3, some .int, [])
theorem tmX6_weightTogether : am_all mX6_weightTogether.2.1 ttX6_weightTogether = true := tkX6_weightTogether
theorem hw_X6_weightTogether : Cond.code yX6_weightTogether cX6_weightTogether 3 (some .int) ∈ am_tg := am_t6 201 rfl rfl
theorem ok_X6_weightTogether : am_okM mX6_weightTogether 0 := ⟨hw_X6_weightTogether, am_t1 4 rfl rfl, by decide +kernel, by decide +kernel, by decide⟩
theorem in_X6_weightTogether : Cond.instanceMethod mX6_weightTogether.1 ∈ am_tg := am_t6 199 rfl rfl
theorem se_X6_weightTogether : Cond.selects mX6_weightTogether.1.cls mX6_weightTogether.1 mX6_weightTogether.1 ∈ am_tg := am_t6 200 rfl rfl
def mX6_intoMap : am_M := (yX6_intoMap, cX6_intoMap, 5, some .boolean, [])
theorem tmX6_intoMap : am_all mX6_intoMap.2.1 ttX6_intoMap = true := tkX6_intoMap
theorem hw_X6_intoMap : Cond.code yX6_intoMap cX6_intoMap 5 (some .boolean) ∈ am_tg := am_t6 217 rfl rfl
theorem ok_X6_intoMap : am_okM mX6_intoMap 1 := ⟨hw_X6_intoMap, am_t1 4 rfl rfl, by decide +kernel, by decide +kernel, by decide⟩
theorem in_X6_intoMap : Cond.instanceMethod mX6_intoMap.1 ∈ am_tg := am_t6 215 rfl rfl
theorem se_X6_intoMap : Cond.selects mX6_intoMap.1.cls mX6_intoMap.1 mX6_intoMap.1 ∈ am_tg := am_t6 216 rfl rfl
def mX9_stretchLast : am_M := (yX9_stretchLast, cX9_stretchLast, 2, none, [])
theorem tmX9_stretchLast : am_all mX9_stretchLast.2.1 ttX9_stretchLast = true := tkX9_stretchLast
theorem hw_X9_stretchLast : Cond.code yX9_stretchLast cX9_stretchLast 2 (none) ∈ am_tg := am_t6 223 rfl rfl
theorem ok_X9_stretchLast : am_okM mX9_stretchLast 1 := ⟨hw_X9_stretchLast, am_t1 7 rfl rfl, by decide +kernel, by decide +kernel, by decide⟩
theorem in_X9_stretchLast : Cond.instanceMethod mX9_stretchLast.1 ∈ am_tg := am_t6 221 rfl rfl
theorem se_X9_stretchLast : Cond.selects mX9_stretchLast.1.cls mX9_stretchLast.1 mX9_stretchLast.1 ∈ am_tg := am_t6 222 rfl rfl
def mX7_add : am_M := (yX7_add, cX7_add, 2, none, [])
theorem tmX7_add : am_all mX7_add.2.1 ttX7_add = true := tkX7_add
theorem hw_X7_add : Cond.code yX7_add cX7_add 2 (none) ∈ am_tg := am_t5 75 rfl rfl
theorem ok_X7_add : am_okM mX7_add 1 := ⟨hw_X7_add, am_t1 5 rfl rfl, by decide +kernel, by decide +kernel, by decide⟩
theorem in_X7_add : Cond.instanceMethod mX7_add.1 ∈ am_tg := am_t5 73 rfl rfl
theorem se_X7_add : Cond.selects mX7_add.1.cls mX7_add.1 mX7_add.1 ∈ am_tg := am_t5 74 rfl rfl
def mX7_toldAt : am_M := (yX7_toldAt, cX7_toldAt, 2, some .int, [])
theorem tmX7_toldAt : am_all mX7_toldAt.2.1 ttX7_toldAt = true := tkX7_toldAt
theorem hw_X7_toldAt : Cond.code yX7_toldAt cX7_toldAt 2 (some .int) ∈ am_tg := am_t2 217 rfl rfl
theorem ok_X7_toldAt : am_okM mX7_toldAt 1 := ⟨hw_X7_toldAt, am_t1 5 rfl rfl, by decide +kernel, by decide +kernel, by decide⟩
theorem in_X7_toldAt : Cond.instanceMethod mX7_toldAt.1 ∈ am_tg := am_t2 215 rfl rfl
theorem se_X7_toldAt : Cond.selects mX7_toldAt.1.cls mX7_toldAt.1 mX7_toldAt.1 ∈ am_tg := am_t2 216 rfl rfl
def mX7_holds : am_M := (yX7_holds, cX7_holds, 3, some .boolean, [])
theorem tmX7_holds : am_all mX7_holds.2.1 ttX7_holds = true := tkX7_holds
theorem hw_X7_holds : Cond.code yX7_holds cX7_holds 3 (some .boolean) ∈ am_tg := am_t6 234 rfl rfl
theorem ok_X7_holds : am_okM mX7_holds 2 := ⟨hw_X7_holds, am_t1 5 rfl rfl, by decide +kernel, by decide +kernel, by decide⟩
theorem in_X7_holds : Cond.instanceMethod mX7_holds.1 ∈ am_tg := am_t6 232 rfl rfl
theorem se_X7_holds : Cond.selects mX7_holds.1.cls mX7_holds.1 mX7_holds.1 ∈ am_tg := am_t6 233 rfl rfl
def mX7_widestStep : am_M := (yX7_widestStep, cX7_widestStep, 3, some .int, [])
theorem tmX7_widestStep : am_all mX7_widestStep.2.1 ttX7_widestStep = true := tkX7_widestStep
theorem hw_X7_widestStep : Cond.code yX7_widestStep cX7_widestStep 3 (some .int) ∈ am_tg := am_t3 41 rfl rfl
theorem ok_X7_widestStep : am_okM mX7_widestStep 0 := ⟨hw_X7_widestStep, am_t1 5 rfl rfl, by decide +kernel, by decide +kernel, by decide⟩
theorem in_X7_widestStep : Cond.instanceMethod mX7_widestStep.1 ∈ am_tg := am_t3 39 rfl rfl
theorem se_X7_widestStep : Cond.selects mX7_widestStep.1.cls mX7_widestStep.1 mX7_widestStep.1 ∈ am_tg := am_t3 40 rfl rfl
def mX7_addStill : am_M := (yX7_addStill, cX7_addStill, 3, none, [])
theorem tmX7_addStill : am_all mX7_addStill.2.1 ttX7_addStill = true := tkX7_addStill
theorem hw_X7_addStill : Cond.code yX7_addStill cX7_addStill 3 (none) ∈ am_tg := am_t5 87 rfl rfl
theorem ok_X7_addStill : am_okM mX7_addStill 1 := ⟨hw_X7_addStill, am_t1 5 rfl rfl, by decide +kernel, by decide +kernel, by decide⟩
theorem in_X7_addStill : Cond.instanceMethod mX7_addStill.1 ∈ am_tg := am_t5 85 rfl rfl
theorem se_X7_addStill : Cond.selects mX7_addStill.1.cls mX7_addStill.1 mX7_addStill.1 ∈ am_tg := am_t5 86 rfl rfl
def mX7_addWave : am_M := (yX7_addWave, cX7_addWave, 5, none, [])
theorem tmX7_addWave : am_all mX7_addWave.2.1 ttX7_addWave = true := tkX7_addWave
theorem hw_X7_addWave : Cond.code yX7_addWave cX7_addWave 5 (none) ∈ am_tg := am_t5 83 rfl rfl
theorem ok_X7_addWave : am_okM mX7_addWave 3 := ⟨hw_X7_addWave, am_t1 5 rfl rfl, by decide +kernel, by decide +kernel, by decide⟩
theorem in_X7_addWave : Cond.instanceMethod mX7_addWave.1 ∈ am_tg := am_t5 81 rfl rfl
theorem se_X7_addWave : Cond.selects mX7_addWave.1.cls mX7_addWave.1 mX7_addWave.1 ∈ am_tg := am_t5 82 rfl rfl
def mX7_addBlow : am_M := (yX7_addBlow, cX7_addBlow, 5, none, [])
theorem tmX7_addBlow : am_all mX7_addBlow.2.1 ttX7_addBlow = true := tkX7_addBlow
theorem hw_X7_addBlow : Cond.code yX7_addBlow cX7_addBlow 5 (none) ∈ am_tg := am_t5 79 rfl rfl
theorem ok_X7_addBlow : am_okM mX7_addBlow 2 := ⟨hw_X7_addBlow, am_t1 5 rfl rfl, by decide +kernel, by decide +kernel, by decide⟩
theorem in_X7_addBlow : Cond.instanceMethod mX7_addBlow.1 ∈ am_tg := am_t5 77 rfl rfl
theorem se_X7_addBlow : Cond.selects mX7_addBlow.1.cls mX7_addBlow.1 mX7_addBlow.1 ∈ am_tg := am_t5 78 rfl rfl
def mX7_addHiss : am_M := (yX7_addHiss, cX7_addHiss, 6, none, [])
theorem tmX7_addHiss : am_all mX7_addHiss.2.1 ttX7_addHiss = true := tkX7_addHiss
theorem hw_X7_addHiss : Cond.code yX7_addHiss cX7_addHiss 6 (none) ∈ am_tg := am_t5 69 rfl rfl
theorem ok_X7_addHiss : am_okM mX7_addHiss 3 := ⟨hw_X7_addHiss, am_t1 5 rfl rfl, by decide +kernel, by decide +kernel, by decide⟩
theorem in_X7_addHiss : Cond.instanceMethod mX7_addHiss.1 ∈ am_tg := am_t5 67 rfl rfl
theorem se_X7_addHiss : Cond.selects mX7_addHiss.1.cls mX7_addHiss.1 mX7_addHiss.1 ∈ am_tg := am_t5 68 rfl rfl
def mX7_layHum : am_M := (yX7_layHum, cX7_layHum, 4, none, [])
theorem tmX7_layHum : am_all mX7_layHum.2.1 ttX7_layHum = true := tkX7_layHum
theorem hw_X7_layHum : Cond.code yX7_layHum cX7_layHum 4 (none) ∈ am_tg := am_t5 52 rfl rfl
theorem ok_X7_layHum : am_okM mX7_layHum 2 := ⟨hw_X7_layHum, am_t1 5 rfl rfl, by decide +kernel, by decide +kernel, by decide⟩
theorem in_X7_layHum : Cond.instanceMethod mX7_layHum.1 ∈ am_tg := am_t5 50 rfl rfl
theorem se_X7_layHum : Cond.selects mX7_layHum.1.cls mX7_layHum.1 mX7_layHum.1 ∈ am_tg := am_t5 51 rfl rfl
def mX7_farFrom : am_M := (yX7_farFrom, cX7_farFrom, 3, some .int, [])
theorem tmX7_farFrom : am_all mX7_farFrom.2.1 ttX7_farFrom = true := tkX7_farFrom
theorem hw_X7_farFrom : Cond.code yX7_farFrom cX7_farFrom 3 (some .int) ∈ am_tg := am_t8 118 rfl rfl
theorem ok_X7_farFrom : am_okM mX7_farFrom 1 := ⟨hw_X7_farFrom, am_t1 5 rfl rfl, by decide +kernel, by decide +kernel, by decide⟩
theorem in_X7_farFrom : Cond.instanceMethod mX7_farFrom.1 ∈ am_tg := am_t8 116 rfl rfl
theorem se_X7_farFrom : Cond.selects mX7_farFrom.1.cls mX7_farFrom.1 mX7_farFrom.1 ∈ am_tg := am_t8 117 rfl rfl
def mX7_findLoop : am_M := (yX7_findLoop, cX7_findLoop, 9, some .boolean, [])
theorem tmX7_findLoop_0 : am_all mX7_findLoop.2.1 ttX7_findLoop_0 = true := tkX7_findLoop_0
theorem tmX7_findLoop_1 : am_all mX7_findLoop.2.1 ttX7_findLoop_1 = true := tkX7_findLoop_1
theorem hw_X7_findLoop : Cond.code yX7_findLoop cX7_findLoop 9 (some .boolean) ∈ am_tg := am_t7 207 rfl rfl
theorem ok_X7_findLoop : am_okM mX7_findLoop 3 := ⟨hw_X7_findLoop, am_t1 5 rfl rfl, by decide +kernel, by decide +kernel, by decide⟩
theorem in_X7_findLoop : Cond.instanceMethod mX7_findLoop.1 ∈ am_tg := am_t7 205 rfl rfl
theorem se_X7_findLoop : Cond.selects mX7_findLoop.1.cls mX7_findLoop.1 mX7_findLoop.1 ∈ am_tg := am_t7 206 rfl rfl
def mX7_bestJoin : am_M := (yX7_bestJoin, cX7_bestJoin, 9, some .int, [])
theorem tmX7_bestJoin : am_all mX7_bestJoin.2.1 ttX7_bestJoin = true := tkX7_bestJoin
theorem hw_X7_bestJoin : Cond.code yX7_bestJoin cX7_bestJoin 9 (some .int) ∈ am_tg := am_t7 219 rfl rfl
theorem ok_X7_bestJoin : am_okM mX7_bestJoin 3 := ⟨hw_X7_bestJoin, am_t1 5 rfl rfl, by decide +kernel, by decide +kernel, by decide⟩
theorem in_X7_bestJoin : Cond.instanceMethod mX7_bestJoin.1 ∈ am_tg := am_t7 217 rfl rfl
theorem se_X7_bestJoin : Cond.selects mX7_bestJoin.1.cls mX7_bestJoin.1 mX7_bestJoin.1 ∈ am_tg := am_t7 218 rfl rfl
def mX7_joinOf : am_M := (yX7_joinOf, cX7_joinOf, 5, none, [])
theorem tmX7_joinOf : am_all mX7_joinOf.2.1 ttX7_joinOf = true := tkX7_joinOf
theorem hw_X7_joinOf : Cond.code yX7_joinOf cX7_joinOf 5 (none) ∈ am_tg := am_t7 223 rfl rfl
theorem ok_X7_joinOf : am_okM mX7_joinOf 4 := ⟨hw_X7_joinOf, am_t1 5 rfl rfl, by decide +kernel, by decide +kernel, by decide⟩
theorem in_X7_joinOf : Cond.instanceMethod mX7_joinOf.1 ∈ am_tg := am_t7 221 rfl rfl
theorem se_X7_joinOf : Cond.selects mX7_joinOf.1.cls mX7_joinOf.1 mX7_joinOf.1 ∈ am_tg := am_t7 222 rfl rfl
def mX7_resampleOf : am_M := (yX7_resampleOf, cX7_resampleOf, 8, none, [])
theorem tmX7_resampleOf : am_all mX7_resampleOf.2.1 ttX7_resampleOf = true := tkX7_resampleOf
theorem hw_X7_resampleOf : Cond.code yX7_resampleOf cX7_resampleOf 8 (none) ∈ am_tg := am_t7 237 rfl rfl
theorem ok_X7_resampleOf : am_okM mX7_resampleOf 4 := ⟨hw_X7_resampleOf, am_t1 5 rfl rfl, by decide +kernel, by decide +kernel, by decide⟩
theorem in_X7_resampleOf : Cond.instanceMethod mX7_resampleOf.1 ∈ am_tg := am_t7 235 rfl rfl
theorem se_X7_resampleOf : Cond.selects mX7_resampleOf.1.cls mX7_resampleOf.1 mX7_resampleOf.1 ∈ am_tg := am_t7 236 rfl rfl
def mX8_addNumber : am_M := (yX8_addNumber, cX8_addNumber, 3, none, [])
theorem tmX8_addNumber : am_all mX8_addNumber.2.1 ttX8_addNumber = true := tkX8_addNumber
theorem hw_X8_addNumber : Cond.code yX8_addNumber cX8_addNumber 3 (none) ∈ am_tg := am_t2 201 rfl rfl
theorem ok_X8_addNumber : am_okM mX8_addNumber 1 := ⟨hw_X8_addNumber, am_t1 9 rfl rfl, by decide +kernel, by decide +kernel, by decide⟩
theorem in_X8_addNumber : Cond.instanceMethod mX8_addNumber.1 ∈ am_tg := am_t2 199 rfl rfl
theorem se_X8_addNumber : Cond.selects mX8_addNumber.1.cls mX8_addNumber.1 mX8_addNumber.1 ∈ am_tg := am_t2 200 rfl rfl
def mX8_takeText : am_M := (yX8_takeText, cX8_takeText, 2, none, [])
theorem tmX8_takeText : am_all mX8_takeText.2.1 ttX8_takeText = true := tkX8_takeText
theorem hw_X8_takeText : Cond.code yX8_takeText cX8_takeText 2 (none) ∈ am_tg := am_t4 205 rfl rfl
theorem ok_X8_takeText : am_okM mX8_takeText 1 := ⟨hw_X8_takeText, am_t1 9 rfl rfl, by decide +kernel, by decide +kernel, by decide⟩
theorem in_X8_takeText : Cond.instanceMethod mX8_takeText.1 ∈ am_tg := am_t4 203 rfl rfl
theorem se_X8_takeText : Cond.selects mX8_takeText.1.cls mX8_takeText.1 mX8_takeText.1 ∈ am_tg := am_t4 204 rfl rfl
def mX8_readSound : am_M := (yX8_readSound, cX8_readSound, 3, none, [])
theorem tmX8_readSound : am_all mX8_readSound.2.1 ttX8_readSound = true := tkX8_readSound
theorem hw_X8_readSound : Cond.code yX8_readSound cX8_readSound 3 (none) ∈ am_tg := am_t4 210 rfl rfl
theorem ok_X8_readSound : am_okM mX8_readSound 1 := ⟨hw_X8_readSound, am_t1 9 rfl rfl, by decide +kernel, by decide +kernel, by decide⟩
theorem in_X8_readSound : Cond.instanceMethod mX8_readSound.1 ∈ am_tg := am_t4 208 rfl rfl
theorem se_X8_readSound : Cond.selects mX8_readSound.1.cls mX8_readSound.1 mX8_readSound.1 ∈ am_tg := am_t4 209 rfl rfl
def mX8_fail : am_M := (yX8_fail, cX8_fail, 3, none, [])
theorem tmX8_fail : am_all mX8_fail.2.1 ttX8_fail = true := tkX8_fail
theorem hw_X8_fail : Cond.code yX8_fail cX8_fail 3 (none) ∈ am_tg := am_t5 34 rfl rfl
theorem ok_X8_fail : am_okM mX8_fail 2 := ⟨hw_X8_fail, am_t1 9 rfl rfl, by decide +kernel, by decide +kernel, by decide⟩
theorem in_X8_fail : Cond.instanceMethod mX8_fail.1 ∈ am_tg := am_t5 33 rfl rfl
theorem se_X8_fail : Cond.selects mX8_fail.1.cls mX8_fail.1 mX8_fail.1 ∈ am_tg := am_tg_in (List.mem_append_left _ (by decide +kernel)) (by decide +kernel)
def mX8_moreComes : am_M := (yX8_moreComes, cX8_moreComes, 1, some .boolean, [])
theorem tmX8_moreComes : am_all mX8_moreComes.2.1 ttX8_moreComes = true := tkX8_moreComes
theorem hw_X8_moreComes : Cond.code yX8_moreComes cX8_moreComes 1 (some .boolean) ∈ am_tg := am_t4 215 rfl rfl
theorem ok_X8_moreComes : am_okM mX8_moreComes 0 := ⟨hw_X8_moreComes, am_t1 9 rfl rfl, by decide +kernel, by decide +kernel, by decide⟩
theorem in_X8_moreComes : Cond.instanceMethod mX8_moreComes.1 ∈ am_tg := am_t4 214 rfl rfl
theorem se_X8_moreComes : Cond.selects mX8_moreComes.1.cls mX8_moreComes.1 mX8_moreComes.1 ∈ am_tg := am_tg_in (List.mem_append_left _ (by decide +kernel)) (by decide +kernel)
def mX8_skipBlanks : am_M := (yX8_skipBlanks, cX8_skipBlanks, 1, none, [])
theorem tmX8_skipBlanks : am_all mX8_skipBlanks.2.1 ttX8_skipBlanks = true := tkX8_skipBlanks
theorem hw_X8_skipBlanks : Cond.code yX8_skipBlanks cX8_skipBlanks 1 (none) ∈ am_tg := am_t4 219 rfl rfl
theorem ok_X8_skipBlanks : am_okM mX8_skipBlanks 0 := ⟨hw_X8_skipBlanks, am_t1 9 rfl rfl, by decide +kernel, by decide +kernel, by decide⟩
theorem in_X8_skipBlanks : Cond.instanceMethod mX8_skipBlanks.1 ∈ am_tg := am_t4 218 rfl rfl
theorem se_X8_skipBlanks : Cond.selects mX8_skipBlanks.1.cls mX8_skipBlanks.1 mX8_skipBlanks.1 ∈ am_tg := am_tg_in (List.mem_append_left _ (by decide +kernel)) (by decide +kernel)
def mX8_byteAt : am_M := (yX8_byteAt, cX8_byteAt, 2, some .int, [])
theorem tmX8_byteAt : am_all mX8_byteAt.2.1 ttX8_byteAt = true := tkX8_byteAt
theorem hw_X8_byteAt : Cond.code yX8_byteAt cX8_byteAt 2 (some .int) ∈ am_tg := am_t4 223 rfl rfl
theorem ok_X8_byteAt : am_okM mX8_byteAt 1 := ⟨hw_X8_byteAt, am_t1 9 rfl rfl, by decide +kernel, by decide +kernel, by decide⟩
theorem in_X8_byteAt : Cond.instanceMethod mX8_byteAt.1 ∈ am_tg := am_t4 222 rfl rfl
theorem se_X8_byteAt : Cond.selects mX8_byteAt.1.cls mX8_byteAt.1 mX8_byteAt.1 ∈ am_tg := am_tg_in (List.mem_append_left _ (by decide +kernel)) (by decide +kernel)
def mX8_readClause : am_M := (yX8_readClause, cX8_readClause, 12, none, [])
theorem tmX8_readClause_0 : am_all mX8_readClause.2.1 ttX8_readClause_0 = true := tkX8_readClause_0
theorem tmX8_readClause_1 : am_all mX8_readClause.2.1 ttX8_readClause_1 = true := tkX8_readClause_1
theorem hw_X8_readClause : Cond.code yX8_readClause cX8_readClause 12 (none) ∈ am_tg := am_t4 236 rfl rfl
theorem ok_X8_readClause : am_okM mX8_readClause 2 := ⟨hw_X8_readClause, am_t1 9 rfl rfl, by decide +kernel, by decide +kernel, by decide⟩
theorem in_X8_readClause : Cond.instanceMethod mX8_readClause.1 ∈ am_tg := am_t4 235 rfl rfl
theorem se_X8_readClause : Cond.selects mX8_readClause.1.cls mX8_readClause.1 mX8_readClause.1 ∈ am_tg := am_tg_in (List.mem_append_left _ (by decide +kernel)) (by decide +kernel)
def mX8_isWord : am_M := (yX8_isWord, cX8_isWord, 3, some .boolean, [])
theorem tmX8_isWord : am_all mX8_isWord.2.1 ttX8_isWord = true := tkX8_isWord
theorem hw_X8_isWord : Cond.code yX8_isWord cX8_isWord 3 (some .boolean) ∈ am_tg := am_t5 1 rfl rfl
theorem ok_X8_isWord : am_okM mX8_isWord 1 := ⟨hw_X8_isWord, am_t1 9 rfl rfl, by decide +kernel, by decide +kernel, by decide⟩
theorem in_X8_isWord : Cond.instanceMethod mX8_isWord.1 ∈ am_tg := am_t5 0 rfl rfl
theorem se_X8_isWord : Cond.selects mX8_isWord.1.cls mX8_isWord.1 mX8_isWord.1 ∈ am_tg := am_tg_in (List.mem_append_left _ (by decide +kernel)) (by decide +kernel)
def mX8_readMany : am_M := (yX8_readMany, cX8_readMany, 3, some .int, [])
theorem tmX8_readMany : am_all mX8_readMany.2.1 ttX8_readMany = true := tkX8_readMany
theorem hw_X8_readMany : Cond.code yX8_readMany cX8_readMany 3 (some .int) ∈ am_tg := am_t5 48 rfl rfl
theorem ok_X8_readMany : am_okM mX8_readMany 1 := ⟨hw_X8_readMany, am_t1 9 rfl rfl, by decide +kernel, by decide +kernel, by decide⟩
theorem in_X8_readMany : Cond.instanceMethod mX8_readMany.1 ∈ am_tg := am_t5 47 rfl rfl
theorem se_X8_readMany : Cond.selects mX8_readMany.1.cls mX8_readMany.1 mX8_readMany.1 ∈ am_tg := am_tg_in (List.mem_append_left _ (by decide +kernel)) (by decide +kernel)
def mX8_readNumber : am_M := (yX8_readNumber, cX8_readNumber, 4, some .int, [])
theorem tmX8_readNumber_0 : am_all mX8_readNumber.2.1 ttX8_readNumber_0 = true := tkX8_readNumber_0
theorem tmX8_readNumber_1 : am_all mX8_readNumber.2.1 ttX8_readNumber_1 = true := tkX8_readNumber_1
theorem hw_X8_readNumber : Cond.code yX8_readNumber cX8_readNumber 4 (some .int) ∈ am_tg := am_t5 38 rfl rfl
theorem ok_X8_readNumber : am_okM mX8_readNumber 2 := ⟨hw_X8_readNumber, am_t1 9 rfl rfl, by decide +kernel, by decide +kernel, by decide⟩
theorem in_X8_readNumber : Cond.instanceMethod mX8_readNumber.1 ∈ am_tg := am_t5 37 rfl rfl
theorem se_X8_readNumber : Cond.selects mX8_readNumber.1.cls mX8_readNumber.1 mX8_readNumber.1 ∈ am_tg := am_tg_in (List.mem_append_left _ (by decide +kernel)) (by decide +kernel)
def mX8_isDigit : am_M := (yX8_isDigit, cX8_isDigit, 2, some .boolean, [])
theorem tmX8_isDigit : am_all mX8_isDigit.2.1 ttX8_isDigit = true := tkX8_isDigit
theorem hw_X8_isDigit : Cond.code yX8_isDigit cX8_isDigit 2 (some .boolean) ∈ am_tg := am_t5 42 rfl rfl
theorem ok_X8_isDigit : am_okM mX8_isDigit 1 := ⟨hw_X8_isDigit, am_t1 9 rfl rfl, by decide +kernel, by decide +kernel, by decide⟩
theorem in_X8_isDigit : Cond.instanceMethod mX8_isDigit.1 ∈ am_tg := am_t5 41 rfl rfl
theorem se_X8_isDigit : Cond.selects mX8_isDigit.1.cls mX8_isDigit.1 mX8_isDigit.1 ∈ am_tg := am_tg_in (List.mem_append_left _ (by decide +kernel)) (by decide +kernel)
def mX8_readEnd : am_M := (yX8_readEnd, cX8_readEnd, 1, none, [])
theorem tmX8_readEnd : am_all mX8_readEnd.2.1 ttX8_readEnd = true := tkX8_readEnd
theorem hw_X8_readEnd : Cond.code yX8_readEnd cX8_readEnd 1 (none) ∈ am_tg := am_t5 91 rfl rfl
theorem ok_X8_readEnd : am_okM mX8_readEnd 0 := ⟨hw_X8_readEnd, am_t1 9 rfl rfl, by decide +kernel, by decide +kernel, by decide⟩
theorem in_X8_readEnd : Cond.instanceMethod mX8_readEnd.1 ∈ am_tg := am_t5 90 rfl rfl
theorem se_X8_readEnd : Cond.selects mX8_readEnd.1.cls mX8_readEnd.1 mX8_readEnd.1 ∈ am_tg := am_tg_in (List.mem_append_left _ (by decide +kernel)) (by decide +kernel)
def mX8_readWord : am_M := (yX8_readWord, cX8_readWord, 1, none, [])
theorem tmX8_readWord : am_all mX8_readWord.2.1 ttX8_readWord = true := tkX8_readWord
theorem hw_X8_readWord : Cond.code yX8_readWord cX8_readWord 1 (none) ∈ am_tg := am_t4 227 rfl rfl
theorem ok_X8_readWord : am_okM mX8_readWord 0 := ⟨hw_X8_readWord, am_t1 9 rfl rfl, by decide +kernel, by decide +kernel, by decide⟩
theorem in_X8_readWord : Cond.instanceMethod mX8_readWord.1 ∈ am_tg := am_t4 226 rfl rfl
theorem se_X8_readWord : Cond.selects mX8_readWord.1.cls mX8_readWord.1 mX8_readWord.1 ∈ am_tg := am_tg_in (List.mem_append_left _ (by decide +kernel)) (by decide +kernel)
def mX8_isLetter : am_M := (yX8_isLetter, cX8_isLetter, 2, some .boolean, [])
theorem tmX8_isLetter : am_all mX8_isLetter.2.1 ttX8_isLetter = true := tkX8_isLetter
theorem hw_X8_isLetter : Cond.code yX8_isLetter cX8_isLetter 2 (some .boolean) ∈ am_tg := am_t4 231 rfl rfl
theorem ok_X8_isLetter : am_okM mX8_isLetter 1 := ⟨hw_X8_isLetter, am_t1 9 rfl rfl, by decide +kernel, by decide +kernel, by decide⟩
theorem in_X8_isLetter : Cond.instanceMethod mX8_isLetter.1 ∈ am_tg := am_t4 230 rfl rfl
theorem se_X8_isLetter : Cond.selects mX8_isLetter.1.cls mX8_isLetter.1 mX8_isLetter.1 ∈ am_tg := am_tg_in (List.mem_append_left _ (by decide +kernel)) (by decide +kernel)
def mX8_readMap : am_M := (yX8_readMap, cX8_readMap, 5, none, [])
theorem tmX8_readMap_0 : am_all mX8_readMap.2.1 ttX8_readMap_0 = true := tkX8_readMap_0
theorem tmX8_readMap_1 : am_all mX8_readMap.2.1 ttX8_readMap_1 = true := tkX8_readMap_1
theorem hw_X8_readMap : Cond.code yX8_readMap cX8_readMap 5 (none) ∈ am_tg := am_t5 106 rfl rfl
theorem ok_X8_readMap : am_okM mX8_readMap 1 := ⟨hw_X8_readMap, am_t1 9 rfl rfl, by decide +kernel, by decide +kernel, by decide⟩
theorem in_X8_readMap : Cond.instanceMethod mX8_readMap.1 ∈ am_tg := am_t5 104 rfl rfl
theorem se_X8_readMap : Cond.selects mX8_readMap.1.cls mX8_readMap.1 mX8_readMap.1 ∈ am_tg := am_t5 105 rfl rfl
def mX9_addRest : am_M := (yX9_addRest, cX9_addRest, 2, none, [])
theorem tmX9_addRest : am_all mX9_addRest.2.1 ttX9_addRest = true := tkX9_addRest
theorem hw_X9_addRest : Cond.code yX9_addRest cX9_addRest 2 (none) ∈ am_tg := am_t7 194 rfl rfl
theorem ok_X9_addRest : am_okM mX9_addRest 1 := ⟨hw_X9_addRest, am_t1 7 rfl rfl, by decide +kernel, by decide +kernel, by decide⟩
theorem in_X9_addRest : Cond.instanceMethod mX9_addRest.1 ∈ am_tg := am_t7 192 rfl rfl
theorem se_X9_addRest : Cond.selects mX9_addRest.1.cls mX9_addRest.1 mX9_addRest.1 ∈ am_tg := am_t7 193 rfl rfl
def mX10_pitchOf : am_M := (yX10_pitchOf, cX10_pitchOf, 14, some .int, [])
theorem tmX10_pitchOf : am_all mX10_pitchOf.2.1 ttX10_pitchOf = true := tkX10_pitchOf
theorem hw_X10_pitchOf : Cond.code yX10_pitchOf cX10_pitchOf 14 (some .int) ∈ am_tg := am_t6 238 rfl rfl
theorem ok_X10_pitchOf : am_okM mX10_pitchOf 3 := ⟨hw_X10_pitchOf, am_t1 13 rfl rfl, by decide +kernel, by decide +kernel, by decide⟩
theorem in_X10_pitchOf : Cond.instanceMethod mX10_pitchOf.1 ∈ am_tg := am_t6 236 rfl rfl
theorem se_X10_pitchOf : Cond.selects mX10_pitchOf.1.cls mX10_pitchOf.1 mX10_pitchOf.1 ∈ am_tg := am_t6 237 rfl rfl
def mX10_turn : am_M := (yX10_turn, cX10_turn, 9, none, [])
theorem tmX10_turn : am_all mX10_turn.2.1 ttX10_turn = true := tkX10_turn
theorem hw_X10_turn : Cond.code yX10_turn cX10_turn 9 (none) ∈ am_tg := am_t7 13 rfl rfl
theorem ok_X10_turn : am_okM mX10_turn 4 := ⟨hw_X10_turn, am_t1 13 rfl rfl, by decide +kernel, by decide +kernel, by decide⟩
theorem in_X10_turn : Cond.instanceMethod mX10_turn.1 ∈ am_tg := am_t7 11 rfl rfl
theorem se_X10_turn : Cond.selects mX10_turn.1.cls mX10_turn.1 mX10_turn.1 ∈ am_tg := am_t7 12 rfl rfl
def mX10_strength : am_M := (yX10_strength, cX10_strength, 1, some .long, [])
theorem tmX10_strength : am_all mX10_strength.2.1 ttX10_strength = true := tkX10_strength
theorem hw_X10_strength : Cond.code yX10_strength cX10_strength 1 (some .long) ∈ am_tg := am_t7 19 rfl rfl
theorem ok_X10_strength : am_okM mX10_strength 0 := ⟨hw_X10_strength, am_t1 13 rfl rfl, by decide +kernel, by decide +kernel, by decide⟩
theorem in_X10_strength : Cond.instanceMethod mX10_strength.1 ∈ am_tg := am_t7 17 rfl rfl
theorem se_X10_strength : Cond.selects mX10_strength.1.cls mX10_strength.1 mX10_strength.1 ∈ am_tg := am_t7 18 rfl rfl
def mX10_eighth : am_M := (yX10_eighth, cX10_eighth, 2, some .int, [])
theorem tmX10_eighth : am_all mX10_eighth.2.1 ttX10_eighth = true := tkX10_eighth
theorem hw_X10_eighth : Cond.code yX10_eighth cX10_eighth 2 (some .int) ∈ am_tg := am_t7 23 rfl rfl
theorem ok_X10_eighth : am_okM mX10_eighth 0 := ⟨hw_X10_eighth, am_t1 13 rfl rfl, by decide +kernel, by decide +kernel, by decide⟩
theorem in_X10_eighth : Cond.instanceMethod mX10_eighth.1 ∈ am_tg := am_t7 21 rfl rfl
theorem se_X10_eighth : Cond.selects mX10_eighth.1.cls mX10_eighth.1 mX10_eighth.1 ∈ am_tg := am_t7 22 rfl rfl
def mX10_turnAll : am_M := (yX10_turnAll, cX10_turnAll, 5, none, [])
theorem tmX10_turnAll : am_all mX10_turnAll.2.1 ttX10_turnAll = true := tkX10_turnAll
theorem hw_X10_turnAll : Cond.code yX10_turnAll cX10_turnAll 5 (none) ∈ am_tg := am_t8 17 rfl rfl
theorem ok_X10_turnAll : am_okM mX10_turnAll 3 := ⟨hw_X10_turnAll, am_t1 13 rfl rfl, by decide +kernel, by decide +kernel, by decide⟩
theorem in_X10_turnAll : Cond.instanceMethod mX10_turnAll.1 ∈ am_tg := am_t8 15 rfl rfl
theorem se_X10_turnAll : Cond.selects mX10_turnAll.1.cls mX10_turnAll.1 mX10_turnAll.1 ∈ am_tg := am_t8 16 rfl rfl
def mX10_strengthAt : am_M := (yX10_strengthAt, cX10_strengthAt, 2, some .long, [])
theorem tmX10_strengthAt : am_all mX10_strengthAt.2.1 ttX10_strengthAt = true := tkX10_strengthAt
theorem hw_X10_strengthAt : Cond.code yX10_strengthAt cX10_strengthAt 2 (some .long) ∈ am_tg := am_t8 31 rfl rfl
theorem ok_X10_strengthAt : am_okM mX10_strengthAt 1 := ⟨hw_X10_strengthAt, am_t1 13 rfl rfl, by decide +kernel, by decide +kernel, by decide⟩
theorem in_X10_strengthAt : Cond.instanceMethod mX10_strengthAt.1 ∈ am_tg := am_t8 30 rfl rfl
theorem se_X10_strengthAt : Cond.selects mX10_strengthAt.1.cls mX10_strengthAt.1 mX10_strengthAt.1 ∈ am_tg := am_tg_in (List.mem_append_left _ (by decide +kernel)) (by decide +kernel)
def mX10_isPeak : am_M := (yX10_isPeak, cX10_isPeak, 3, some .boolean, [])
theorem tmX10_isPeak : am_all mX10_isPeak.2.1 ttX10_isPeak = true := tkX10_isPeak
theorem hw_X10_isPeak : Cond.code yX10_isPeak cX10_isPeak 3 (some .boolean) ∈ am_tg := am_t8 27 rfl rfl
theorem ok_X10_isPeak : am_okM mX10_isPeak 1 := ⟨hw_X10_isPeak, am_t1 13 rfl rfl, by decide +kernel, by decide +kernel, by decide⟩
theorem in_X10_isPeak : Cond.instanceMethod mX10_isPeak.1 ∈ am_tg := am_t8 26 rfl rfl
theorem se_X10_isPeak : Cond.selects mX10_isPeak.1.cls mX10_isPeak.1 mX10_isPeak.1 ∈ am_tg := am_tg_in (List.mem_append_left _ (by decide +kernel)) (by decide +kernel)
def mX10_rankOf : am_M := (yX10_rankOf, cX10_rankOf, 5, some .int, [])
theorem tmX10_rankOf : am_all mX10_rankOf.2.1 ttX10_rankOf = true := tkX10_rankOf
theorem hw_X10_rankOf : Cond.code yX10_rankOf cX10_rankOf 5 (some .int) ∈ am_tg := am_t8 35 rfl rfl
theorem ok_X10_rankOf : am_okM mX10_rankOf 1 := ⟨hw_X10_rankOf, am_t1 13 rfl rfl, by decide +kernel, by decide +kernel, by decide⟩
theorem in_X10_rankOf : Cond.instanceMethod mX10_rankOf.1 ∈ am_tg := am_t8 34 rfl rfl
theorem se_X10_rankOf : Cond.selects mX10_rankOf.1.cls mX10_rankOf.1 mX10_rankOf.1 ∈ am_tg := am_tg_in (List.mem_append_left _ (by decide +kernel)) (by decide +kernel)
def mX10_rankedPeak : am_M := (yX10_rankedPeak, cX10_rankedPeak, 3, some .int, [])
theorem tmX10_rankedPeak : am_all mX10_rankedPeak.2.1 ttX10_rankedPeak = true := tkX10_rankedPeak
theorem hw_X10_rankedPeak : Cond.code yX10_rankedPeak cX10_rankedPeak 3 (some .int) ∈ am_tg := am_t8 23 rfl rfl
theorem ok_X10_rankedPeak : am_okM mX10_rankedPeak 1 := ⟨hw_X10_rankedPeak, am_t1 13 rfl rfl, by decide +kernel, by decide +kernel, by decide⟩
theorem in_X10_rankedPeak : Cond.instanceMethod mX10_rankedPeak.1 ∈ am_tg := am_t8 21 rfl rfl
theorem se_X10_rankedPeak : Cond.selects mX10_rankedPeak.1.cls mX10_rankedPeak.1 mX10_rankedPeak.1 ∈ am_tg := am_t8 22 rfl rfl
def mX10_nearestPeak : am_M := (yX10_nearestPeak, cX10_nearestPeak, 4, some .int, [])
theorem tmX10_nearestPeak : am_all mX10_nearestPeak.2.1 ttX10_nearestPeak = true := tkX10_nearestPeak
theorem hw_X10_nearestPeak : Cond.code yX10_nearestPeak cX10_nearestPeak 4 (some .int) ∈ am_tg := am_t8 46 rfl rfl
theorem ok_X10_nearestPeak : am_okM mX10_nearestPeak 1 := ⟨hw_X10_nearestPeak, am_t1 13 rfl rfl, by decide +kernel, by decide +kernel, by decide⟩
theorem in_X10_nearestPeak : Cond.instanceMethod mX10_nearestPeak.1 ∈ am_tg := am_t8 44 rfl rfl
theorem se_X10_nearestPeak : Cond.selects mX10_nearestPeak.1.cls mX10_nearestPeak.1 mX10_nearestPeak.1 ∈ am_tg := am_t8 45 rfl rfl
def mX11_feed : am_M := (yX11_feed, cX11_feed, 6, some .int, [])
theorem tmX11_feed : am_all mX11_feed.2.1 ttX11_feed = true := tkX11_feed
theorem hw_X11_feed : Cond.code yX11_feed cX11_feed 6 (some .int) ∈ am_tg := am_t2 197 rfl rfl
theorem ok_X11_feed : am_okM mX11_feed 5 := ⟨hw_X11_feed, am_t1 1 rfl rfl, by decide +kernel, by decide +kernel, by decide⟩
theorem in_X11_feed : Cond.instanceMethod mX11_feed.1 ∈ am_tg := am_t2 195 rfl rfl
theorem se_X11_feed : Cond.selects mX11_feed.1.cls mX11_feed.1 mX11_feed.1 ∈ am_tg := am_t2 196 rfl rfl
def mX11_sound : am_M := (yX11_sound, cX11_sound, 3, some .int, [])
theorem tmX11_sound : am_all mX11_sound.2.1 ttX11_sound = true := tkX11_sound
theorem hw_X11_sound : Cond.code yX11_sound cX11_sound 3 (some .int) ∈ am_tg := am_t4 187 rfl rfl
theorem ok_X11_sound : am_okM mX11_sound 1 := ⟨hw_X11_sound, am_t1 1 rfl rfl, by decide +kernel, by decide +kernel, by decide⟩
theorem in_X11_sound : Cond.instanceMethod mX11_sound.1 ∈ am_tg := am_t4 185 rfl rfl
theorem se_X11_sound : Cond.selects mX11_sound.1.cls mX11_sound.1 mX11_sound.1 ∈ am_tg := am_t4 186 rfl rfl
def mX11_need : am_M := (yX11_need, cX11_need, 1, none, [])
theorem tmX11_need : am_all mX11_need.2.1 ttX11_need = true := tkX11_need
theorem hw_X11_need : Cond.code yX11_need cX11_need 1 (none) ∈ am_tg := am_t4 190 rfl rfl
theorem ok_X11_need : am_okM mX11_need 1 := ⟨hw_X11_need, am_t1 1 rfl rfl, by decide +kernel, by decide +kernel, by decide⟩
theorem st_X11_need : Cond.static mX11_need.1 ∈ am_tg := am_t4 189 rfl rfl
def mX11_map : am_M := (yX11_map, cX11_map, 3, some .int, [])
theorem tmX11_map : am_all mX11_map.2.1 ttX11_map = true := tkX11_map
theorem hw_X11_map : Cond.code yX11_map cX11_map 3 (some .int) ∈ am_tg := am_t5 98 rfl rfl
theorem ok_X11_map : am_okM mX11_map 1 := ⟨hw_X11_map, am_t1 1 rfl rfl, by decide +kernel, by decide +kernel, by decide⟩
theorem in_X11_map : Cond.instanceMethod mX11_map.1 ∈ am_tg := am_t5 96 rfl rfl
theorem se_X11_map : Cond.selects mX11_map.1.cls mX11_map.1 mX11_map.1 ∈ am_tg := am_t5 97 rfl rfl
def mX11_fault : am_M := (yX11_fault, cX11_fault, 1, some .int, [])
theorem tmX11_fault : am_all mX11_fault.2.1 ttX11_fault = true := tkX11_fault
theorem hw_X11_fault : Cond.code yX11_fault cX11_fault 1 (some .int) ∈ am_tg := am_t2 205 rfl rfl
theorem ok_X11_fault : am_okM mX11_fault 0 := ⟨hw_X11_fault, am_t1 1 rfl rfl, by decide +kernel, by decide +kernel, by decide⟩
theorem in_X11_fault : Cond.instanceMethod mX11_fault.1 ∈ am_tg := am_t2 203 rfl rfl
theorem se_X11_fault : Cond.selects mX11_fault.1.cls mX11_fault.1 mX11_fault.1 ∈ am_tg := am_t2 204 rfl rfl
def mX11_size : am_M := (yX11_size, cX11_size, 2, some .int, [])
theorem tmX11_size : am_all mX11_size.2.1 ttX11_size = true := tkX11_size
theorem hw_X11_size : Cond.code yX11_size cX11_size 2 (some .int) ∈ am_tg := am_t5 143 rfl rfl
theorem ok_X11_size : am_okM mX11_size 1 := ⟨hw_X11_size, am_t1 1 rfl rfl, by decide +kernel, by decide +kernel, by decide⟩
theorem in_X11_size : Cond.instanceMethod mX11_size.1 ∈ am_tg := am_t5 141 rfl rfl
theorem se_X11_size : Cond.selects mX11_size.1.cls mX11_size.1 mX11_size.1 ∈ am_tg := am_t5 142 rfl rfl
def mX11_soundOf : am_M := (yX11_soundOf, cX11_soundOf, 2, some (.object RX7), [])
theorem tmX11_soundOf : am_all mX11_soundOf.2.1 ttX11_soundOf = true := tkX11_soundOf
theorem hw_X11_soundOf : Cond.code yX11_soundOf cX11_soundOf 2 (some (.object RX7)) ∈ am_tg := am_t5 147 rfl rfl
theorem ok_X11_soundOf : am_okM mX11_soundOf 1 := ⟨hw_X11_soundOf, am_t1 1 rfl rfl, by decide +kernel, by decide +kernel, by decide⟩
theorem in_X11_soundOf : Cond.instanceMethod mX11_soundOf.1 ∈ am_tg := am_t5 146 rfl rfl
theorem se_X11_soundOf : Cond.selects mX11_soundOf.1.cls mX11_soundOf.1 mX11_soundOf.1 ∈ am_tg := am_tg_in (List.mem_append_left _ (by decide +kernel)) (by decide +kernel)
def mX11_sample : am_M := (yX11_sample, cX11_sample, 3, some .int, [])
theorem tmX11_sample : am_all mX11_sample.2.1 ttX11_sample = true := tkX11_sample
theorem hw_X11_sample : Cond.code yX11_sample cX11_sample 3 (some .int) ∈ am_tg := am_t5 169 rfl rfl
theorem ok_X11_sample : am_okM mX11_sample 2 := ⟨hw_X11_sample, am_t1 1 rfl rfl, by decide +kernel, by decide +kernel, by decide⟩
theorem in_X11_sample : Cond.instanceMethod mX11_sample.1 ∈ am_tg := am_t5 167 rfl rfl
theorem se_X11_sample : Cond.selects mX11_sample.1.cls mX11_sample.1 mX11_sample.1 ∈ am_tg := am_t5 168 rfl rfl
def mX11_told : am_M := (yX11_told, cX11_told, 4, some .int, [])
theorem tmX11_told : am_all mX11_told.2.1 ttX11_told = true := tkX11_told
theorem hw_X11_told : Cond.code yX11_told cX11_told 4 (some .int) ∈ am_tg := am_t5 177 rfl rfl
theorem ok_X11_told : am_okM mX11_told 2 := ⟨hw_X11_told, am_t1 1 rfl rfl, by decide +kernel, by decide +kernel, by decide⟩
theorem in_X11_told : Cond.instanceMethod mX11_told.1 ∈ am_tg := am_t5 175 rfl rfl
theorem se_X11_told : Cond.selects mX11_told.1.cls mX11_told.1 mX11_told.1 ∈ am_tg := am_t5 176 rfl rfl
def mX11_mapOf : am_M := (yX11_mapOf, cX11_mapOf, 2, some (.object RX9), [])
theorem tmX11_mapOf : am_all mX11_mapOf.2.1 ttX11_mapOf = true := tkX11_mapOf
theorem hw_X11_mapOf : Cond.code yX11_mapOf cX11_mapOf 2 (some (.object RX9)) ∈ am_tg := am_t5 181 rfl rfl
theorem ok_X11_mapOf : am_okM mX11_mapOf 1 := ⟨hw_X11_mapOf, am_t1 1 rfl rfl, by decide +kernel, by decide +kernel, by decide⟩
theorem in_X11_mapOf : Cond.instanceMethod mX11_mapOf.1 ∈ am_tg := am_t5 180 rfl rfl
theorem se_X11_mapOf : Cond.selects mX11_mapOf.1.cls mX11_mapOf.1 mX11_mapOf.1 ∈ am_tg := am_tg_in (List.mem_append_left _ (by decide +kernel)) (by decide +kernel)
def mX11_place : am_M := (yX11_place, cX11_place, 3, some .int, [])
theorem tmX11_place : am_all mX11_place.2.1 ttX11_place = true := tkX11_place
theorem hw_X11_place : Cond.code yX11_place cX11_place 3 (some .int) ∈ am_tg := am_t5 205 rfl rfl
theorem ok_X11_place : am_okM mX11_place 2 := ⟨hw_X11_place, am_t1 1 rfl rfl, by decide +kernel, by decide +kernel, by decide⟩
theorem in_X11_place : Cond.instanceMethod mX11_place.1 ∈ am_tg := am_t5 203 rfl rfl
theorem se_X11_place : Cond.selects mX11_place.1.cls mX11_place.1 mX11_place.1 ∈ am_tg := am_t5 204 rfl rfl
def mX11_where : am_M := (yX11_where, cX11_where, 3, some .int, [])
theorem tmX11_where : am_all mX11_where.2.1 ttX11_where = true := tkX11_where
theorem hw_X11_where : Cond.code yX11_where cX11_where 3 (some .int) ∈ am_tg := am_t5 217 rfl rfl
theorem ok_X11_where : am_okM mX11_where 2 := ⟨hw_X11_where, am_t1 1 rfl rfl, by decide +kernel, by decide +kernel, by decide⟩
theorem in_X11_where : Cond.instanceMethod mX11_where.1 ∈ am_tg := am_t5 215 rfl rfl
theorem se_X11_where : Cond.selects mX11_where.1.cls mX11_where.1 mX11_where.1 ∈ am_tg := am_t5 216 rfl rfl
def mX11_pieces : am_M := (yX11_pieces, cX11_pieces, 5, some .int, [])
theorem tmX11_pieces : am_all mX11_pieces.2.1 ttX11_pieces = true := tkX11_pieces
theorem hw_X11_pieces : Cond.code yX11_pieces cX11_pieces 5 (some .int) ∈ am_tg := am_t5 230 rfl rfl
theorem ok_X11_pieces : am_okM mX11_pieces 3 := ⟨hw_X11_pieces, am_t1 1 rfl rfl, by decide +kernel, by decide +kernel, by decide⟩
theorem in_X11_pieces : Cond.instanceMethod mX11_pieces.1 ∈ am_tg := am_t5 228 rfl rfl
theorem se_X11_pieces : Cond.selects mX11_pieces.1.cls mX11_pieces.1 mX11_pieces.1 ∈ am_tg := am_t5 229 rfl rfl
def mX11_draw : am_M := (yX11_draw, cX11_draw, 5, some .int, [])
theorem tmX11_draw : am_all mX11_draw.2.1 ttX11_draw = true := tkX11_draw
theorem hw_X11_draw : Cond.code yX11_draw cX11_draw 5 (some .int) ∈ am_tg := am_t6 3 rfl rfl
theorem ok_X11_draw : am_okM mX11_draw 2 := ⟨hw_X11_draw, am_t1 1 rfl rfl, by decide +kernel, by decide +kernel, by decide⟩
theorem in_X11_draw : Cond.instanceMethod mX11_draw.1 ∈ am_tg := am_t6 1 rfl rfl
theorem se_X11_draw : Cond.selects mX11_draw.1.cls mX11_draw.1 mX11_draw.1 ∈ am_tg := am_t6 2 rfl rfl
def mX11_needLong : am_M := (yX11_needLong, cX11_needLong, 3, none, [])
theorem tmX11_needLong : am_all mX11_needLong.2.1 ttX11_needLong = true := tkX11_needLong
theorem hw_X11_needLong : Cond.code yX11_needLong cX11_needLong 3 (none) ∈ am_tg := am_t6 6 rfl rfl
theorem ok_X11_needLong : am_okM mX11_needLong 3 := ⟨hw_X11_needLong, am_t1 1 rfl rfl, by decide +kernel, by decide +kernel, by decide⟩
theorem st_X11_needLong : Cond.static mX11_needLong.1 ∈ am_tg := am_t6 5 rfl rfl
def mX11_sharp : am_M := (yX11_sharp, cX11_sharp, 5, some .int, [])
theorem tmX11_sharp : am_all mX11_sharp.2.1 ttX11_sharp = true := tkX11_sharp
theorem hw_X11_sharp : Cond.code yX11_sharp cX11_sharp 5 (some .int) ∈ am_tg := am_t6 66 rfl rfl
theorem ok_X11_sharp : am_okM mX11_sharp 2 := ⟨hw_X11_sharp, am_t1 1 rfl rfl, by decide +kernel, by decide +kernel, by decide⟩
theorem in_X11_sharp : Cond.instanceMethod mX11_sharp.1 ∈ am_tg := am_t6 64 rfl rfl
theorem se_X11_sharp : Cond.selects mX11_sharp.1.cls mX11_sharp.1 mX11_sharp.1 ∈ am_tg := am_t6 65 rfl rfl
def mX11_length : am_M := (yX11_length, cX11_length, 1, some .int, [])
theorem tmX11_length : am_all mX11_length.2.1 ttX11_length = true := tkX11_length
theorem hw_X11_length : Cond.code yX11_length cX11_length 1 (some .int) ∈ am_tg := am_t2 209 rfl rfl
theorem ok_X11_length : am_okM mX11_length 0 := ⟨hw_X11_length, am_t1 1 rfl rfl, by decide +kernel, by decide +kernel, by decide⟩
theorem in_X11_length : Cond.instanceMethod mX11_length.1 ∈ am_tg := am_t2 207 rfl rfl
theorem se_X11_length : Cond.selects mX11_length.1.cls mX11_length.1 mX11_length.1 ∈ am_tg := am_t2 208 rfl rfl
def mX11_result : am_M := (yX11_result, cX11_result, 2, some .int, [])
theorem tmX11_result : am_all mX11_result.2.1 ttX11_result = true := tkX11_result
theorem hw_X11_result : Cond.code yX11_result cX11_result 2 (some .int) ∈ am_tg := am_t2 213 rfl rfl
theorem ok_X11_result : am_okM mX11_result 1 := ⟨hw_X11_result, am_t1 1 rfl rfl, by decide +kernel, by decide +kernel, by decide⟩
theorem in_X11_result : Cond.instanceMethod mX11_result.1 ∈ am_tg := am_t2 211 rfl rfl
theorem se_X11_result : Cond.selects mX11_result.1.cls mX11_result.1 mX11_result.1 ∈ am_tg := am_t2 212 rfl rfl
def mX11_seam : am_M := (yX11_seam, cX11_seam, 3, some .int, [])
theorem tmX11_seam : am_all mX11_seam.2.1 ttX11_seam = true := tkX11_seam
theorem hw_X11_seam : Cond.code yX11_seam cX11_seam 3 (some .int) ∈ am_tg := am_t6 82 rfl rfl
theorem ok_X11_seam : am_okM mX11_seam 2 := ⟨hw_X11_seam, am_t1 1 rfl rfl, by decide +kernel, by decide +kernel, by decide⟩
theorem in_X11_seam : Cond.instanceMethod mX11_seam.1 ∈ am_tg := am_t6 80 rfl rfl
theorem se_X11_seam : Cond.selects mX11_seam.1.cls mX11_seam.1 mX11_seam.1 ∈ am_tg := am_t6 81 rfl rfl
def mX11_keep : am_M := (yX11_keep, cX11_keep, 2, some .int, [])
theorem tmX11_keep : am_all mX11_keep.2.1 ttX11_keep = true := tkX11_keep
theorem hw_X11_keep : Cond.code yX11_keep cX11_keep 2 (some .int) ∈ am_tg := am_t2 225 rfl rfl
theorem ok_X11_keep : am_okM mX11_keep 0 := ⟨hw_X11_keep, am_t1 1 rfl rfl, by decide +kernel, by decide +kernel, by decide⟩
theorem in_X11_keep : Cond.instanceMethod mX11_keep.1 ∈ am_tg := am_t2 223 rfl rfl
theorem se_X11_keep : Cond.selects mX11_keep.1.cls mX11_keep.1 mX11_keep.1 ∈ am_tg := am_t2 224 rfl rfl
def mX11_blowing : am_M := (yX11_blowing, cX11_blowing, 5, some .int, [])
theorem tmX11_blowing : am_all mX11_blowing.2.1 ttX11_blowing = true := tkX11_blowing
theorem hw_X11_blowing : Cond.code yX11_blowing cX11_blowing 5 (some .int) ∈ am_tg := am_t6 93 rfl rfl
theorem ok_X11_blowing : am_okM mX11_blowing 3 := ⟨hw_X11_blowing, am_t1 1 rfl rfl, by decide +kernel, by decide +kernel, by decide⟩
theorem in_X11_blowing : Cond.instanceMethod mX11_blowing.1 ∈ am_tg := am_t6 91 rfl rfl
theorem se_X11_blowing : Cond.selects mX11_blowing.1.cls mX11_blowing.1 mX11_blowing.1 ∈ am_tg := am_t6 92 rfl rfl
def mX11_blow : am_M := (yX11_blow, cX11_blow, 3, some .int, [])
theorem tmX11_blow : am_all mX11_blow.2.1 ttX11_blow = true := tkX11_blow
theorem hw_X11_blow : Cond.code yX11_blow cX11_blow 3 (some .int) ∈ am_tg := am_t6 100 rfl rfl
theorem ok_X11_blow : am_okM mX11_blow 2 := ⟨hw_X11_blow, am_t1 1 rfl rfl, by decide +kernel, by decide +kernel, by decide⟩
theorem in_X11_blow : Cond.instanceMethod mX11_blow.1 ∈ am_tg := am_t6 98 rfl rfl
theorem se_X11_blow : Cond.selects mX11_blow.1.cls mX11_blow.1 mX11_blow.1 ∈ am_tg := am_t6 99 rfl rfl
def mX11_blows : am_M := (yX11_blows, cX11_blows, 1, some .int, [])
theorem tmX11_blows : am_all mX11_blows.2.1 ttX11_blows = true := tkX11_blows
theorem hw_X11_blows : Cond.code yX11_blows cX11_blows 1 (some .int) ∈ am_tg := am_t3 15 rfl rfl
theorem ok_X11_blows : am_okM mX11_blows 0 := ⟨hw_X11_blows, am_t1 1 rfl rfl, by decide +kernel, by decide +kernel, by decide⟩
theorem in_X11_blows : Cond.instanceMethod mX11_blows.1 ∈ am_tg := am_t3 13 rfl rfl
theorem se_X11_blows : Cond.selects mX11_blows.1.cls mX11_blows.1 mX11_blows.1 ∈ am_tg := am_t3 14 rfl rfl
def mX11_harm : am_M := (yX11_harm, cX11_harm, 2, some .int, [])
theorem tmX11_harm : am_all mX11_harm.2.1 ttX11_harm = true := tkX11_harm
theorem hw_X11_harm : Cond.code yX11_harm cX11_harm 2 (some .int) ∈ am_tg := am_t6 108 rfl rfl
theorem ok_X11_harm : am_okM mX11_harm 1 := ⟨hw_X11_harm, am_t1 1 rfl rfl, by decide +kernel, by decide +kernel, by decide⟩
theorem in_X11_harm : Cond.instanceMethod mX11_harm.1 ∈ am_tg := am_t6 106 rfl rfl
theorem se_X11_harm : Cond.selects mX11_harm.1.cls mX11_harm.1 mX11_harm.1 ∈ am_tg := am_t6 107 rfl rfl
def mX11_countedOf : am_M := (yX11_countedOf, cX11_countedOf, 5, some .int, [])
theorem tmX11_countedOf : am_all mX11_countedOf.2.1 ttX11_countedOf = true := tkX11_countedOf
theorem hw_X11_countedOf : Cond.code yX11_countedOf cX11_countedOf 5 (some .int) ∈ am_tg := am_t6 112 rfl rfl
theorem ok_X11_countedOf : am_okM mX11_countedOf 1 := ⟨hw_X11_countedOf, am_t1 1 rfl rfl, by decide +kernel, by decide +kernel, by decide⟩
theorem in_X11_countedOf : Cond.instanceMethod mX11_countedOf.1 ∈ am_tg := am_t6 111 rfl rfl
theorem se_X11_countedOf : Cond.selects mX11_countedOf.1.cls mX11_countedOf.1 mX11_countedOf.1 ∈ am_tg := am_tg_in (List.mem_append_left _ (by decide +kernel)) (by decide +kernel)
def mX11_harmOf : am_M := (yX11_harmOf, cX11_harmOf, 3, some .int, [])
theorem tmX11_harmOf : am_all mX11_harmOf.2.1 ttX11_harmOf = true := tkX11_harmOf
theorem hw_X11_harmOf : Cond.code yX11_harmOf cX11_harmOf 3 (some .int) ∈ am_tg := am_t6 116 rfl rfl
theorem ok_X11_harmOf : am_okM mX11_harmOf 2 := ⟨hw_X11_harmOf, am_t1 1 rfl rfl, by decide +kernel, by decide +kernel, by decide⟩
theorem in_X11_harmOf : Cond.instanceMethod mX11_harmOf.1 ∈ am_tg := am_t6 115 rfl rfl
theorem se_X11_harmOf : Cond.selects mX11_harmOf.1.cls mX11_harmOf.1 mX11_harmOf.1 ∈ am_tg := am_tg_in (List.mem_append_left _ (by decide +kernel)) (by decide +kernel)
def mX11_weigh : am_M := (yX11_weigh, cX11_weigh, 4, some .int, [])
theorem tmX11_weigh : am_all mX11_weigh.2.1 ttX11_weigh = true := tkX11_weigh
theorem hw_X11_weigh : Cond.code yX11_weigh cX11_weigh 4 (some .int) ∈ am_tg := am_t6 148 rfl rfl
theorem ok_X11_weigh : am_okM mX11_weigh 2 := ⟨hw_X11_weigh, am_t1 1 rfl rfl, by decide +kernel, by decide +kernel, by decide⟩
theorem in_X11_weigh : Cond.instanceMethod mX11_weigh.1 ∈ am_tg := am_t6 146 rfl rfl
theorem se_X11_weigh : Cond.selects mX11_weigh.1.cls mX11_weigh.1 mX11_weigh.1 ∈ am_tg := am_t6 147 rfl rfl
def mX11_way : am_M := (yX11_way, cX11_way, 4, some .int, [])
theorem tmX11_way : am_all mX11_way.2.1 ttX11_way = true := tkX11_way
theorem hw_X11_way : Cond.code yX11_way cX11_way 4 (some .int) ∈ am_tg := am_t6 155 rfl rfl
theorem ok_X11_way : am_okM mX11_way 3 := ⟨hw_X11_way, am_t1 1 rfl rfl, by decide +kernel, by decide +kernel, by decide⟩
theorem in_X11_way : Cond.instanceMethod mX11_way.1 ∈ am_tg := am_t6 153 rfl rfl
theorem se_X11_way : Cond.selects mX11_way.1.cls mX11_way.1 mX11_way.1 ∈ am_tg := am_t6 154 rfl rfl
def mX11_best : am_M := (yX11_best, cX11_best, 9, some .int, [])
theorem tmX11_best : am_all mX11_best.2.1 ttX11_best = true := tkX11_best
theorem hw_X11_best : Cond.code yX11_best cX11_best 9 (some .int) ∈ am_tg := am_t6 162 rfl rfl
theorem ok_X11_best : am_okM mX11_best 2 := ⟨hw_X11_best, am_t1 1 rfl rfl, by decide +kernel, by decide +kernel, by decide⟩
theorem in_X11_best : Cond.instanceMethod mX11_best.1 ∈ am_tg := am_t6 160 rfl rfl
theorem se_X11_best : Cond.selects mX11_best.1.cls mX11_best.1 mX11_best.1 ∈ am_tg := am_t6 161 rfl rfl
def mX11_needLongForWays : am_M := (yX11_needLongForWays, cX11_needLongForWays, 4, none, [])
theorem tmX11_needLongForWays : am_all mX11_needLongForWays.2.1 ttX11_needLongForWays = true := tkX11_needLongForWays
theorem hw_X11_needLongForWays : Cond.code yX11_needLongForWays cX11_needLongForWays 4 (none) ∈ am_tg := am_t6 166 rfl rfl
theorem ok_X11_needLongForWays : am_okM mX11_needLongForWays 2 := ⟨hw_X11_needLongForWays, am_t1 1 rfl rfl, by decide +kernel, by decide +kernel, by decide⟩
theorem in_X11_needLongForWays : Cond.instanceMethod mX11_needLongForWays.1 ∈ am_tg := am_t6 165 rfl rfl
theorem se_X11_needLongForWays : Cond.selects mX11_needLongForWays.1.cls mX11_needLongForWays.1 mX11_needLongForWays.1 ∈ am_tg := am_tg_in (List.mem_append_left _ (by decide +kernel)) (by decide +kernel)
def mX11_bestOf : am_M := (yX11_bestOf, cX11_bestOf, 10, some .int, [])
theorem tmX11_bestOf_0 : am_all mX11_bestOf.2.1 ttX11_bestOf_0 = true := tkX11_bestOf_0
theorem tmX11_bestOf_1 : am_all mX11_bestOf.2.1 ttX11_bestOf_1 = true := tkX11_bestOf_1
theorem hw_X11_bestOf : Cond.code yX11_bestOf cX11_bestOf 10 (some .int) ∈ am_tg := am_t6 173 rfl rfl
theorem ok_X11_bestOf : am_okM mX11_bestOf 3 := ⟨hw_X11_bestOf, am_t1 1 rfl rfl, by decide +kernel, by decide +kernel, by decide⟩
theorem in_X11_bestOf : Cond.instanceMethod mX11_bestOf.1 ∈ am_tg := am_t6 171 rfl rfl
theorem se_X11_bestOf : Cond.selects mX11_bestOf.1.cls mX11_bestOf.1 mX11_bestOf.1 ∈ am_tg := am_t6 172 rfl rfl
def mX11_part : am_M := (yX11_part, cX11_part, 5, some .int, [])
theorem tmX11_part : am_all mX11_part.2.1 ttX11_part = true := tkX11_part
theorem hw_X11_part : Cond.code yX11_part cX11_part 5 (some .int) ∈ am_tg := am_t6 181 rfl rfl
theorem ok_X11_part : am_okM mX11_part 4 := ⟨hw_X11_part, am_t1 1 rfl rfl, by decide +kernel, by decide +kernel, by decide⟩
theorem in_X11_part : Cond.instanceMethod mX11_part.1 ∈ am_tg := am_t6 179 rfl rfl
theorem se_X11_part : Cond.selects mX11_part.1.cls mX11_part.1 mX11_part.1 ∈ am_tg := am_t6 180 rfl rfl
def mX11_planned : am_M := (yX11_planned, cX11_planned, 4, some .int, [])
theorem tmX11_planned : am_all mX11_planned.2.1 ttX11_planned = true := tkX11_planned
theorem hw_X11_planned : Cond.code yX11_planned cX11_planned 4 (some .int) ∈ am_tg := am_t6 192 rfl rfl
theorem ok_X11_planned : am_okM mX11_planned 2 := ⟨hw_X11_planned, am_t1 1 rfl rfl, by decide +kernel, by decide +kernel, by decide⟩
theorem in_X11_planned : Cond.instanceMethod mX11_planned.1 ∈ am_tg := am_t6 190 rfl rfl
theorem se_X11_planned : Cond.selects mX11_planned.1.cls mX11_planned.1 mX11_planned.1 ∈ am_tg := am_t6 191 rfl rfl
def mX11_planMap : am_M := (yX11_planMap, cX11_planMap, 3, some .int, [])
theorem tmX11_planMap : am_all mX11_planMap.2.1 ttX11_planMap = true := tkX11_planMap
theorem hw_X11_planMap : Cond.code yX11_planMap cX11_planMap 3 (some .int) ∈ am_tg := am_t6 213 rfl rfl
theorem ok_X11_planMap : am_okM mX11_planMap 1 := ⟨hw_X11_planMap, am_t1 1 rfl rfl, by decide +kernel, by decide +kernel, by decide⟩
theorem in_X11_planMap : Cond.instanceMethod mX11_planMap.1 ∈ am_tg := am_t6 211 rfl rfl
theorem se_X11_planMap : Cond.selects mX11_planMap.1.cls mX11_planMap.1 mX11_planMap.1 ∈ am_tg := am_t6 212 rfl rfl
def mX11_pitch : am_M := (yX11_pitch, cX11_pitch, 5, some .int, [])
theorem tmX11_pitch : am_all mX11_pitch.2.1 ttX11_pitch = true := tkX11_pitch
theorem hw_X11_pitch : Cond.code yX11_pitch cX11_pitch 5 (some .int) ∈ am_tg := am_t6 230 rfl rfl
theorem ok_X11_pitch : am_okM mX11_pitch 3 := ⟨hw_X11_pitch, am_t1 1 rfl rfl, by decide +kernel, by decide +kernel, by decide⟩
theorem in_X11_pitch : Cond.instanceMethod mX11_pitch.1 ∈ am_tg := am_t6 228 rfl rfl
theorem se_X11_pitch : Cond.selects mX11_pitch.1.cls mX11_pitch.1 mX11_pitch.1 ∈ am_tg := am_t6 229 rfl rfl
def mX11_turned : am_M := (yX11_turned, cX11_turned, 7, some .long, [])
theorem tmX11_turned : am_all mX11_turned.2.1 ttX11_turned = true := tkX11_turned
theorem hw_X11_turned : Cond.code yX11_turned cX11_turned 7 (some .long) ∈ am_tg := am_t7 6 rfl rfl
theorem ok_X11_turned : am_okM mX11_turned 5 := ⟨hw_X11_turned, am_t1 1 rfl rfl, by decide +kernel, by decide +kernel, by decide⟩
theorem in_X11_turned : Cond.instanceMethod mX11_turned.1 ∈ am_tg := am_t7 4 rfl rfl
theorem se_X11_turned : Cond.selects mX11_turned.1.cls mX11_turned.1 mX11_turned.1 ∈ am_tg := am_t7 5 rfl rfl
def mX11_isPitch : am_M := (yX11_isPitch, cX11_isPitch, 1, some .boolean, [])
theorem tmX11_isPitch : am_all mX11_isPitch.2.1 ttX11_isPitch = true := tkX11_isPitch
theorem hw_X11_isPitch : Cond.code yX11_isPitch cX11_isPitch 1 (some .boolean) ∈ am_tg := am_t7 9 rfl rfl
theorem ok_X11_isPitch : am_okM mX11_isPitch 1 := ⟨hw_X11_isPitch, am_t1 1 rfl rfl, by decide +kernel, by decide +kernel, by decide⟩
theorem st_X11_isPitch : Cond.static mX11_isPitch.1 ∈ am_tg := am_t7 8 rfl rfl
def mX11_sing : am_M := (yX11_sing, cX11_sing, 7, some .int, [])
theorem tmX11_sing : am_all mX11_sing.2.1 ttX11_sing = true := tkX11_sing
theorem hw_X11_sing : Cond.code yX11_sing cX11_sing 7 (some .int) ∈ am_tg := am_t7 31 rfl rfl
theorem ok_X11_sing : am_okM mX11_sing 4 := ⟨hw_X11_sing, am_t1 1 rfl rfl, by decide +kernel, by decide +kernel, by decide⟩
theorem in_X11_sing : Cond.instanceMethod mX11_sing.1 ∈ am_tg := am_t7 29 rfl rfl
theorem se_X11_sing : Cond.selects mX11_sing.1.cls mX11_sing.1 mX11_sing.1 ∈ am_tg := am_t7 30 rfl rfl
def mX11_jump : am_M := (yX11_jump, cX11_jump, 1, some .int, [])
theorem tmX11_jump : am_all mX11_jump.2.1 ttX11_jump = true := tkX11_jump
theorem hw_X11_jump : Cond.code yX11_jump cX11_jump 1 (some .int) ∈ am_tg := am_t3 37 rfl rfl
theorem ok_X11_jump : am_okM mX11_jump 0 := ⟨hw_X11_jump, am_t1 1 rfl rfl, by decide +kernel, by decide +kernel, by decide⟩
theorem in_X11_jump : Cond.instanceMethod mX11_jump.1 ∈ am_tg := am_t3 35 rfl rfl
theorem se_X11_jump : Cond.selects mX11_jump.1.cls mX11_jump.1 mX11_jump.1 ∈ am_tg := am_t3 36 rfl rfl
def mX11_crossing : am_M := (yX11_crossing, cX11_crossing, 3, some .int, [])
theorem tmX11_crossing : am_all mX11_crossing.2.1 ttX11_crossing = true := tkX11_crossing
theorem hw_X11_crossing : Cond.code yX11_crossing cX11_crossing 3 (some .int) ∈ am_tg := am_t7 47 rfl rfl
theorem ok_X11_crossing : am_okM mX11_crossing 2 := ⟨hw_X11_crossing, am_t1 1 rfl rfl, by decide +kernel, by decide +kernel, by decide⟩
theorem in_X11_crossing : Cond.instanceMethod mX11_crossing.1 ∈ am_tg := am_t7 45 rfl rfl
theorem se_X11_crossing : Cond.selects mX11_crossing.1.cls mX11_crossing.1 mX11_crossing.1 ∈ am_tg := am_t7 46 rfl rfl
def mX11_period : am_M := (yX11_period, cX11_period, 2, some .int, [])
theorem tmX11_period : am_all mX11_period.2.1 ttX11_period = true := tkX11_period
theorem hw_X11_period : Cond.code yX11_period cX11_period 2 (some .int) ∈ am_tg := am_t7 63 rfl rfl
theorem ok_X11_period : am_okM mX11_period 1 := ⟨hw_X11_period, am_t1 1 rfl rfl, by decide +kernel, by decide +kernel, by decide⟩
theorem in_X11_period : Cond.instanceMethod mX11_period.1 ∈ am_tg := am_t7 61 rfl rfl
theorem se_X11_period : Cond.selects mX11_period.1.cls mX11_period.1 mX11_period.1 ∈ am_tg := am_t7 62 rfl rfl
def mX11_hum : am_M := (yX11_hum, cX11_hum, 2, some .int, [])
theorem tmX11_hum : am_all mX11_hum.2.1 ttX11_hum = true := tkX11_hum
theorem hw_X11_hum : Cond.code yX11_hum cX11_hum 2 (some .int) ∈ am_tg := am_t7 85 rfl rfl
theorem ok_X11_hum : am_okM mX11_hum 1 := ⟨hw_X11_hum, am_t1 1 rfl rfl, by decide +kernel, by decide +kernel, by decide⟩
theorem in_X11_hum : Cond.instanceMethod mX11_hum.1 ∈ am_tg := am_t7 83 rfl rfl
theorem se_X11_hum : Cond.selects mX11_hum.1.cls mX11_hum.1 mX11_hum.1 ∈ am_tg := am_t7 84 rfl rfl
def mX11_isHum : am_M := (yX11_isHum, cX11_isHum, 1, some .boolean, [])
theorem tmX11_isHum : am_all mX11_isHum.2.1 ttX11_isHum = true := tkX11_isHum
theorem hw_X11_isHum : Cond.code yX11_isHum cX11_isHum 1 (some .boolean) ∈ am_tg := am_t7 88 rfl rfl
theorem ok_X11_isHum : am_okM mX11_isHum 1 := ⟨hw_X11_isHum, am_t1 1 rfl rfl, by decide +kernel, by decide +kernel, by decide⟩
theorem st_X11_isHum : Cond.static mX11_isHum.1 ∈ am_tg := am_t7 87 rfl rfl
def mX11_meant : am_M := (yX11_meant, cX11_meant, 7, some .int, [])
theorem tmX11_meant : am_all mX11_meant.2.1 ttX11_meant = true := tkX11_meant
theorem hw_X11_meant : Cond.code yX11_meant cX11_meant 7 (some .int) ∈ am_tg := am_t7 95 rfl rfl
theorem ok_X11_meant : am_okM mX11_meant 2 := ⟨hw_X11_meant, am_t1 1 rfl rfl, by decide +kernel, by decide +kernel, by decide⟩
theorem in_X11_meant : Cond.instanceMethod mX11_meant.1 ∈ am_tg := am_t7 93 rfl rfl
theorem se_X11_meant : Cond.selects mX11_meant.1.cls mX11_meant.1 mX11_meant.1 ∈ am_tg := am_t7 94 rfl rfl
def mX11_undo : am_M := (yX11_undo, cX11_undo, 6, some .int, [])
theorem tmX11_undo : am_all mX11_undo.2.1 ttX11_undo = true := tkX11_undo
theorem hw_X11_undo : Cond.code yX11_undo cX11_undo 6 (some .int) ∈ am_tg := am_t7 112 rfl rfl
theorem ok_X11_undo : am_okM mX11_undo 2 := ⟨hw_X11_undo, am_t1 1 rfl rfl, by decide +kernel, by decide +kernel, by decide⟩
theorem in_X11_undo : Cond.instanceMethod mX11_undo.1 ∈ am_tg := am_t7 110 rfl rfl
theorem se_X11_undo : Cond.selects mX11_undo.1.cls mX11_undo.1 mX11_undo.1 ∈ am_tg := am_t7 111 rfl rfl
def mX11_wobble : am_M := (yX11_wobble, cX11_wobble, 4, some .int, [])
theorem tmX11_wobble : am_all mX11_wobble.2.1 ttX11_wobble = true := tkX11_wobble
theorem hw_X11_wobble : Cond.code yX11_wobble cX11_wobble 4 (some .int) ∈ am_tg := am_t7 122 rfl rfl
theorem ok_X11_wobble : am_okM mX11_wobble 2 := ⟨hw_X11_wobble, am_t1 1 rfl rfl, by decide +kernel, by decide +kernel, by decide⟩
theorem in_X11_wobble : Cond.instanceMethod mX11_wobble.1 ∈ am_tg := am_t7 120 rfl rfl
theorem se_X11_wobble : Cond.selects mX11_wobble.1.cls mX11_wobble.1 mX11_wobble.1 ∈ am_tg := am_t7 121 rfl rfl
def mX11_beat : am_M := (yX11_beat, cX11_beat, 4, some .int, [])
theorem tmX11_beat : am_all mX11_beat.2.1 ttX11_beat = true := tkX11_beat
theorem hw_X11_beat : Cond.code yX11_beat cX11_beat 4 (some .int) ∈ am_tg := am_t7 144 rfl rfl
theorem ok_X11_beat : am_okM mX11_beat 2 := ⟨hw_X11_beat, am_t1 1 rfl rfl, by decide +kernel, by decide +kernel, by decide⟩
theorem in_X11_beat : Cond.instanceMethod mX11_beat.1 ∈ am_tg := am_t7 142 rfl rfl
theorem se_X11_beat : Cond.selects mX11_beat.1.cls mX11_beat.1 mX11_beat.1 ∈ am_tg := am_t7 143 rfl rfl
def mX11_onto : am_M := (yX11_onto, cX11_onto, 5, some .int, [])
theorem tmX11_onto : am_all mX11_onto.2.1 ttX11_onto = true := tkX11_onto
theorem hw_X11_onto : Cond.code yX11_onto cX11_onto 5 (some .int) ∈ am_tg := am_t7 177 rfl rfl
theorem ok_X11_onto : am_okM mX11_onto 2 := ⟨hw_X11_onto, am_t1 1 rfl rfl, by decide +kernel, by decide +kernel, by decide⟩
theorem in_X11_onto : Cond.instanceMethod mX11_onto.1 ∈ am_tg := am_t7 175 rfl rfl
theorem se_X11_onto : Cond.selects mX11_onto.1.cls mX11_onto.1 mX11_onto.1 ∈ am_tg := am_t7 176 rfl rfl
def mX11_loop : am_M := (yX11_loop, cX11_loop, 5, some .int, [])
theorem tmX11_loop : am_all mX11_loop.2.1 ttX11_loop = true := tkX11_loop
theorem hw_X11_loop : Cond.code yX11_loop cX11_loop 5 (some .int) ∈ am_tg := am_t7 203 rfl rfl
theorem ok_X11_loop : am_okM mX11_loop 3 := ⟨hw_X11_loop, am_t1 1 rfl rfl, by decide +kernel, by decide +kernel, by decide⟩
theorem in_X11_loop : Cond.instanceMethod mX11_loop.1 ∈ am_tg := am_t7 201 rfl rfl
theorem se_X11_loop : Cond.selects mX11_loop.1.cls mX11_loop.1 mX11_loop.1 ∈ am_tg := am_t7 202 rfl rfl
def mX11_join : am_M := (yX11_join, cX11_join, 8, some .int, [])
theorem tmX11_join : am_all mX11_join.2.1 ttX11_join = true := tkX11_join
theorem hw_X11_join : Cond.code yX11_join cX11_join 8 (some .int) ∈ am_tg := am_t7 215 rfl rfl
theorem ok_X11_join : am_okM mX11_join 2 := ⟨hw_X11_join, am_t1 1 rfl rfl, by decide +kernel, by decide +kernel, by decide⟩
theorem in_X11_join : Cond.instanceMethod mX11_join.1 ∈ am_tg := am_t7 213 rfl rfl
theorem se_X11_join : Cond.selects mX11_join.1.cls mX11_join.1 mX11_join.1 ∈ am_tg := am_t7 214 rfl rfl
def mX11_shift : am_M := (yX11_shift, cX11_shift, 6, some .int, [])
theorem tmX11_shift_0 : am_all mX11_shift.2.1 ttX11_shift_0 = true := tkX11_shift_0
theorem tmX11_shift_1 : am_all mX11_shift.2.1 ttX11_shift_1 = true := tkX11_shift_1
theorem hw_X11_shift : Cond.code yX11_shift cX11_shift 6 (some .int) ∈ am_tg := am_t7 233 rfl rfl
theorem ok_X11_shift : am_okM mX11_shift 3 := ⟨hw_X11_shift, am_t1 1 rfl rfl, by decide +kernel, by decide +kernel, by decide⟩
theorem in_X11_shift : Cond.instanceMethod mX11_shift.1 ∈ am_tg := am_t7 231 rfl rfl
theorem se_X11_shift : Cond.selects mX11_shift.1.cls mX11_shift.1 mX11_shift.1 ∈ am_tg := am_t7 232 rfl rfl
def mX11_colour : am_M := (yX11_colour, cX11_colour, 7, some .int, [])
theorem tmX11_colour : am_all mX11_colour.2.1 ttX11_colour = true := tkX11_colour
theorem hw_X11_colour : Cond.code yX11_colour cX11_colour 7 (some .int) ∈ am_tg := am_t8 4 rfl rfl
theorem ok_X11_colour : am_okM mX11_colour 2 := ⟨hw_X11_colour, am_t1 1 rfl rfl, by decide +kernel, by decide +kernel, by decide⟩
theorem in_X11_colour : Cond.instanceMethod mX11_colour.1 ∈ am_tg := am_t8 2 rfl rfl
theorem se_X11_colour : Cond.selects mX11_colour.1.cls mX11_colour.1 mX11_colour.1 ∈ am_tg := am_t8 3 rfl rfl
def mX11_peak : am_M := (yX11_peak, cX11_peak, 6, some .int, [])
theorem tmX11_peak : am_all mX11_peak.2.1 ttX11_peak = true := tkX11_peak
theorem hw_X11_peak : Cond.code yX11_peak cX11_peak 6 (some .int) ∈ am_tg := am_t8 13 rfl rfl
theorem ok_X11_peak : am_okM mX11_peak 4 := ⟨hw_X11_peak, am_t1 1 rfl rfl, by decide +kernel, by decide +kernel, by decide⟩
theorem in_X11_peak : Cond.instanceMethod mX11_peak.1 ∈ am_tg := am_t8 11 rfl rfl
theorem se_X11_peak : Cond.selects mX11_peak.1.cls mX11_peak.1 mX11_peak.1 ∈ am_tg := am_t8 12 rfl rfl
def mX11_lock : am_M := (yX11_lock, cX11_lock, 6, some .int, [])
theorem tmX11_lock : am_all mX11_lock.2.1 ttX11_lock = true := tkX11_lock
theorem hw_X11_lock : Cond.code yX11_lock cX11_lock 6 (some .int) ∈ am_tg := am_t8 42 rfl rfl
theorem ok_X11_lock : am_okM mX11_lock 4 := ⟨hw_X11_lock, am_t1 1 rfl rfl, by decide +kernel, by decide +kernel, by decide⟩
theorem in_X11_lock : Cond.instanceMethod mX11_lock.1 ∈ am_tg := am_t8 40 rfl rfl
theorem se_X11_lock : Cond.selects mX11_lock.1.cls mX11_lock.1 mX11_lock.1 ∈ am_tg := am_t8 41 rfl rfl
def mX11_steady : am_M := (yX11_steady, cX11_steady, 4, some .int, [])
theorem tmX11_steady : am_all mX11_steady.2.1 ttX11_steady = true := tkX11_steady
theorem hw_X11_steady : Cond.code yX11_steady cX11_steady 4 (some .int) ∈ am_tg := am_t8 54 rfl rfl
theorem ok_X11_steady : am_okM mX11_steady 1 := ⟨hw_X11_steady, am_t1 1 rfl rfl, by decide +kernel, by decide +kernel, by decide⟩
theorem in_X11_steady : Cond.instanceMethod mX11_steady.1 ∈ am_tg := am_t8 52 rfl rfl
theorem se_X11_steady : Cond.selects mX11_steady.1.cls mX11_steady.1 mX11_steady.1 ∈ am_tg := am_t8 53 rfl rfl
def mX11_film : am_M := (yX11_film, cX11_film, 6, some .int, [])
theorem tmX11_film : am_all mX11_film.2.1 ttX11_film = true := tkX11_film
theorem hw_X11_film : Cond.code yX11_film cX11_film 6 (some .int) ∈ am_tg := am_t8 74 rfl rfl
theorem ok_X11_film : am_okM mX11_film 3 := ⟨hw_X11_film, am_t1 1 rfl rfl, by decide +kernel, by decide +kernel, by decide⟩
theorem in_X11_film : Cond.instanceMethod mX11_film.1 ∈ am_tg := am_t8 72 rfl rfl
theorem se_X11_film : Cond.selects mX11_film.1.cls mX11_film.1 mX11_film.1 ∈ am_tg := am_t8 73 rfl rfl
def mX11_live : am_M := (yX11_live, cX11_live, 9, some .int, [])
theorem tmX11_live : am_all mX11_live.2.1 ttX11_live = true := tkX11_live
theorem hw_X11_live : Cond.code yX11_live cX11_live 9 (some .int) ∈ am_tg := am_t8 81 rfl rfl
theorem ok_X11_live : am_okM mX11_live 5 := ⟨hw_X11_live, am_t1 1 rfl rfl, by decide +kernel, by decide +kernel, by decide⟩
theorem in_X11_live : Cond.instanceMethod mX11_live.1 ∈ am_tg := am_t8 79 rfl rfl
theorem se_X11_live : Cond.selects mX11_live.1.cls mX11_live.1 mX11_live.1 ∈ am_tg := am_t8 80 rfl rfl
def mX11_isBuffer : am_M := (yX11_isBuffer, cX11_isBuffer, 2, some .boolean, [])
theorem tmX11_isBuffer : am_all mX11_isBuffer.2.1 ttX11_isBuffer = true := tkX11_isBuffer
theorem hw_X11_isBuffer : Cond.code yX11_isBuffer cX11_isBuffer 2 (some .boolean) ∈ am_tg := am_t8 87 rfl rfl
theorem ok_X11_isBuffer : am_okM mX11_isBuffer 2 := ⟨hw_X11_isBuffer, am_t1 1 rfl rfl, by decide +kernel, by decide +kernel, by decide⟩
theorem st_X11_isBuffer : Cond.static mX11_isBuffer.1 ∈ am_tg := am_t8 86 rfl rfl
def mX11_isStream : am_M := (yX11_isStream, cX11_isStream, 1, some .boolean, [])
theorem tmX11_isStream : am_all mX11_isStream.2.1 ttX11_isStream = true := tkX11_isStream
theorem hw_X11_isStream : Cond.code yX11_isStream cX11_isStream 1 (some .boolean) ∈ am_tg := am_t8 84 rfl rfl
theorem ok_X11_isStream : am_okM mX11_isStream 1 := ⟨hw_X11_isStream, am_t1 1 rfl rfl, by decide +kernel, by decide +kernel, by decide⟩
theorem st_X11_isStream : Cond.static mX11_isStream.1 ∈ am_tg := am_t8 83 rfl rfl
def mX11_lag : am_M := (yX11_lag, cX11_lag, 5, some .int, [])
theorem tmX11_lag : am_all mX11_lag.2.1 ttX11_lag = true := tkX11_lag
theorem hw_X11_lag : Cond.code yX11_lag cX11_lag 5 (some .int) ∈ am_tg := am_t8 94 rfl rfl
theorem ok_X11_lag : am_okM mX11_lag 4 := ⟨hw_X11_lag, am_t1 1 rfl rfl, by decide +kernel, by decide +kernel, by decide⟩
theorem in_X11_lag : Cond.instanceMethod mX11_lag.1 ∈ am_tg := am_t8 92 rfl rfl
theorem se_X11_lag : Cond.selects mX11_lag.1.cls mX11_lag.1 mX11_lag.1 ∈ am_tg := am_t8 93 rfl rfl
def mX11_leastLag : am_M := (yX11_leastLag, cX11_leastLag, 8, some .int, [])
theorem tmX11_leastLag : am_all mX11_leastLag.2.1 ttX11_leastLag = true := tkX11_leastLag
theorem hw_X11_leastLag : Cond.code yX11_leastLag cX11_leastLag 8 (some .int) ∈ am_tg := am_t8 97 rfl rfl
theorem ok_X11_leastLag : am_okM mX11_leastLag 5 := ⟨hw_X11_leastLag, am_t1 1 rfl rfl, by decide +kernel, by decide +kernel, by decide⟩
theorem st_X11_leastLag : Cond.static mX11_leastLag.1 ∈ am_tg := am_t8 96 rfl rfl
def mX11_liveFails : am_M := (yX11_liveFails, cX11_liveFails, 7, some .boolean, [])
theorem tmX11_liveFails : am_all mX11_liveFails.2.1 ttX11_liveFails = true := tkX11_liveFails
theorem hw_X11_liveFails : Cond.code yX11_liveFails cX11_liveFails 7 (some .boolean) ∈ am_tg := am_t8 100 rfl rfl
theorem ok_X11_liveFails : am_okM mX11_liveFails 5 := ⟨hw_X11_liveFails, am_t1 1 rfl rfl, by decide +kernel, by decide +kernel, by decide⟩
theorem st_X11_liveFails : Cond.static mX11_liveFails.1 ∈ am_tg := am_t8 99 rfl rfl
def mX11_lags : am_M := (yX11_lags, cX11_lags, 6, some .int, [])
theorem tmX11_lags : am_all mX11_lags.2.1 ttX11_lags = true := tkX11_lags
theorem hw_X11_lags : Cond.code yX11_lags cX11_lags 6 (some .int) ∈ am_tg := am_t8 107 rfl rfl
theorem ok_X11_lags : am_okM mX11_lags 5 := ⟨hw_X11_lags, am_t1 1 rfl rfl, by decide +kernel, by decide +kernel, by decide⟩
theorem in_X11_lags : Cond.instanceMethod mX11_lags.1 ∈ am_tg := am_t8 105 rfl rfl
theorem se_X11_lags : Cond.selects mX11_lags.1.cls mX11_lags.1 mX11_lags.1 ∈ am_tg := am_t8 106 rfl rfl
def mX11_lost : am_M := (yX11_lost, cX11_lost, 7, some .int, [])
theorem tmX11_lost : am_all mX11_lost.2.1 ttX11_lost = true := tkX11_lost
theorem hw_X11_lost : Cond.code yX11_lost cX11_lost 7 (some .int) ∈ am_tg := am_t8 114 rfl rfl
theorem ok_X11_lost : am_okM mX11_lost 3 := ⟨hw_X11_lost, am_t1 1 rfl rfl, by decide +kernel, by decide +kernel, by decide⟩
theorem in_X11_lost : Cond.instanceMethod mX11_lost.1 ∈ am_tg := am_t8 112 rfl rfl
theorem se_X11_lost : Cond.selects mX11_lost.1.cls mX11_lost.1 mX11_lost.1 ∈ am_tg := am_t8 113 rfl rfl
def mX11_image : am_M := (yX11_image, cX11_image, 1, some .int, [])
theorem tmX11_image : am_all mX11_image.2.1 ttX11_image = true := tkX11_image
theorem hw_X11_image : Cond.code yX11_image cX11_image 1 (some .int) ∈ am_tg := am_t3 49 rfl rfl
theorem ok_X11_image : am_okM mX11_image 0 := ⟨hw_X11_image, am_t1 1 rfl rfl, by decide +kernel, by decide +kernel, by decide⟩
theorem in_X11_image : Cond.instanceMethod mX11_image.1 ∈ am_tg := am_t3 47 rfl rfl
theorem se_X11_image : Cond.selects mX11_image.1.cls mX11_image.1 mX11_image.1 ∈ am_tg := am_t3 48 rfl rfl
def mX11_restore : am_M := (yX11_restore, cX11_restore, 1, some .int, [])
theorem tmX11_restore : am_all mX11_restore.2.1 ttX11_restore = true := tkX11_restore
theorem hw_X11_restore : Cond.code yX11_restore cX11_restore 1 (some .int) ∈ am_tg := am_t3 68 rfl rfl
theorem ok_X11_restore : am_okM mX11_restore 0 := ⟨hw_X11_restore, am_t1 1 rfl rfl, by decide +kernel, by decide +kernel, by decide⟩
theorem in_X11_restore : Cond.instanceMethod mX11_restore.1 ∈ am_tg := am_t3 66 rfl rfl
theorem se_X11_restore : Cond.selects mX11_restore.1.cls mX11_restore.1 mX11_restore.1 ∈ am_tg := am_t3 67 rfl rfl
def mX11_count : am_M := (yX11_count, cX11_count, 2, some .int, [])
theorem tmX11_count : am_all mX11_count.2.1 ttX11_count = true := tkX11_count
theorem hw_X11_count : Cond.code yX11_count cX11_count 2 (some .int) ∈ am_tg := am_t4 179 rfl rfl
theorem ok_X11_count : am_okM mX11_count 1 := ⟨hw_X11_count, am_t1 1 rfl rfl, by decide +kernel, by decide +kernel, by decide⟩
theorem in_X11_count : Cond.instanceMethod mX11_count.1 ∈ am_tg := am_t4 177 rfl rfl
theorem se_X11_count : Cond.selects mX11_count.1.cls mX11_count.1 mX11_count.1 ∈ am_tg := am_t4 178 rfl rfl
def mX12_thrown : am_M := (yX12_thrown, cX12_thrown, 1, some .int, [])
theorem tmX12_thrown : am_all mX12_thrown.2.1 ttX12_thrown = true := tkX12_thrown
theorem hw_X12_thrown : Cond.code yX12_thrown cX12_thrown 1 (some .int) ∈ am_tg := am_t9 62 rfl rfl
theorem ok_X12_thrown : am_okM mX12_thrown 0 := ⟨hw_X12_thrown, am_t1 14 rfl rfl, by decide +kernel, by decide +kernel, by decide⟩
theorem in_X12_thrown : Cond.instanceMethod mX12_thrown.1 ∈ am_tg := am_t9 60 rfl rfl
theorem se_X12_thrown : Cond.selects mX12_thrown.1.cls mX12_thrown.1 mX12_thrown.1 ∈ am_tg := am_t9 61 rfl rfl
def mX12_bad : am_M := (yX12_bad, cX12_bad, 3, some .boolean, [])
theorem tmX12_bad : am_all mX12_bad.2.1 ttX12_bad = true := tkX12_bad
theorem hw_X12_bad : Cond.code yX12_bad cX12_bad 3 (some .boolean) ∈ am_tg := am_t9 77 rfl rfl
theorem ok_X12_bad : am_okM mX12_bad 2 := ⟨hw_X12_bad, am_t1 14 rfl rfl, by decide +kernel, by decide +kernel, by decide⟩
theorem in_X12_bad : Cond.instanceMethod mX12_bad.1 ∈ am_tg := am_t9 76 rfl rfl
theorem se_X12_bad : Cond.selects mX12_bad.1.cls mX12_bad.1 mX12_bad.1 ∈ am_tg := am_tg_in (List.mem_append_left _ (by decide +kernel)) (by decide +kernel)
def mX12_in : am_M := (yX12_in, cX12_in, 3, some .boolean, [])
theorem tmX12_in : am_all mX12_in.2.1 ttX12_in = true := tkX12_in
theorem hw_X12_in : Cond.code yX12_in cX12_in 3 (some .boolean) ∈ am_tg := am_t9 73 rfl rfl
theorem ok_X12_in : am_okM mX12_in 3 := ⟨hw_X12_in, am_t1 14 rfl rfl, by decide +kernel, by decide +kernel, by decide⟩
theorem st_X12_in : Cond.static mX12_in.1 ∈ am_tg := am_t9 72 rfl rfl
def mX12_within : am_M := (yX12_within, cX12_within, 3, some .int, [])
theorem tmX12_within : am_all mX12_within.2.1 ttX12_within = true := tkX12_within
theorem hw_X12_within : Cond.code yX12_within cX12_within 3 (some .int) ∈ am_tg := am_t9 138 rfl rfl
theorem ok_X12_within : am_okM mX12_within 3 := ⟨hw_X12_within, am_t1 14 rfl rfl, by decide +kernel, by decide +kernel, by decide⟩
theorem st_X12_within : Cond.static mX12_within.1 ∈ am_tg := am_t9 137 rfl rfl
def mX12_more : am_M := (yX12_more, cX12_more, 2, some .int, [])
theorem tmX12_more : am_all mX12_more.2.1 ttX12_more = true := tkX12_more
theorem hw_X12_more : Cond.code yX12_more cX12_more 2 (some .int) ∈ am_tg := am_t10 32 rfl rfl
theorem ok_X12_more : am_okM mX12_more 2 := ⟨hw_X12_more, am_t1 14 rfl rfl, by decide +kernel, by decide +kernel, by decide⟩
theorem st_X12_more : Cond.static mX12_more.1 ∈ am_tg := am_t10 31 rfl rfl
def mX12_less : am_M := (yX12_less, cX12_less, 2, some .int, [])
theorem tmX12_less : am_all mX12_less.2.1 ttX12_less = true := tkX12_less
theorem hw_X12_less : Cond.code yX12_less cX12_less 2 (some .int) ∈ am_tg := am_t10 191 rfl rfl
theorem ok_X12_less : am_okM mX12_less 2 := ⟨hw_X12_less, am_t1 14 rfl rfl, by decide +kernel, by decide +kernel, by decide⟩
theorem st_X12_less : Cond.static mX12_less.1 ∈ am_tg := am_t10 190 rfl rfl
def mX12_amount : am_M := (yX12_amount, cX12_amount, 1, some .int, [])
theorem tmX12_amount : am_all mX12_amount.2.1 ttX12_amount = true := tkX12_amount
theorem hw_X12_amount : Cond.code yX12_amount cX12_amount 1 (some .int) ∈ am_tg := am_t10 21 rfl rfl
theorem ok_X12_amount : am_okM mX12_amount 1 := ⟨hw_X12_amount, am_t1 14 rfl rfl, by decide +kernel, by decide +kernel, by decide⟩
theorem st_X12_amount : Cond.static mX12_amount.1 ∈ am_tg := am_t10 20 rfl rfl
def mX12_feed : am_M := (yX12_feed, cX12_feed, 8, some .int, [])
theorem tmX12_feed_0 : am_all mX12_feed.2.1 ttX12_feed_0 = true := tkX12_feed_0
theorem tmX12_feed_1 : am_all mX12_feed.2.1 ttX12_feed_1 = true := tkX12_feed_1
theorem hw_X12_feed : Cond.code yX12_feed cX12_feed 8 (some .int) ∈ am_tg := am_t9 66 rfl rfl
theorem ok_X12_feed : am_okM mX12_feed 5 := ⟨hw_X12_feed, am_t1 14 rfl rfl, by decide +kernel, by decide +kernel, by decide⟩
theorem in_X12_feed : Cond.instanceMethod mX12_feed.1 ∈ am_tg := am_t9 64 rfl rfl
theorem se_X12_feed : Cond.selects mX12_feed.1.cls mX12_feed.1 mX12_feed.1 ∈ am_tg := am_t9 65 rfl rfl
def mX12_byteAt : am_M := (yX12_byteAt, cX12_byteAt, 2, some .int, [])
theorem tmX12_byteAt : am_all mX12_byteAt.2.1 ttX12_byteAt = true := tkX12_byteAt
theorem hw_X12_byteAt : Cond.code yX12_byteAt cX12_byteAt 2 (some .int) ∈ am_tg := am_t9 89 rfl rfl
theorem ok_X12_byteAt : am_okM mX12_byteAt 1 := ⟨hw_X12_byteAt, am_t1 14 rfl rfl, by decide +kernel, by decide +kernel, by decide⟩
theorem in_X12_byteAt : Cond.instanceMethod mX12_byteAt.1 ∈ am_tg := am_t9 88 rfl rfl
theorem se_X12_byteAt : Cond.selects mX12_byteAt.1.cls mX12_byteAt.1 mX12_byteAt.1 ∈ am_tg := am_tg_in (List.mem_append_left _ (by decide +kernel)) (by decide +kernel)
def mX12_blanks : am_M := (yX12_blanks, cX12_blanks, 1, none, [])
theorem tmX12_blanks : am_all mX12_blanks.2.1 ttX12_blanks = true := tkX12_blanks
theorem hw_X12_blanks : Cond.code yX12_blanks cX12_blanks 1 (none) ∈ am_tg := am_t9 85 rfl rfl
theorem ok_X12_blanks : am_okM mX12_blanks 0 := ⟨hw_X12_blanks, am_t1 14 rfl rfl, by decide +kernel, by decide +kernel, by decide⟩
theorem in_X12_blanks : Cond.instanceMethod mX12_blanks.1 ∈ am_tg := am_t9 84 rfl rfl
theorem se_X12_blanks : Cond.selects mX12_blanks.1.cls mX12_blanks.1 mX12_blanks.1 ∈ am_tg := am_tg_in (List.mem_append_left _ (by decide +kernel)) (by decide +kernel)
def mX12_wrong : am_M := (yX12_wrong, cX12_wrong, 3, none, [])
theorem tmX12_wrong : am_all mX12_wrong.2.1 ttX12_wrong = true := tkX12_wrong
theorem hw_X12_wrong : Cond.code yX12_wrong cX12_wrong 3 (none) ∈ am_tg := am_t9 112 rfl rfl
theorem ok_X12_wrong : am_okM mX12_wrong 2 := ⟨hw_X12_wrong, am_t1 14 rfl rfl, by decide +kernel, by decide +kernel, by decide⟩
theorem in_X12_wrong : Cond.instanceMethod mX12_wrong.1 ∈ am_tg := am_t9 111 rfl rfl
theorem se_X12_wrong : Cond.selects mX12_wrong.1.cls mX12_wrong.1 mX12_wrong.1 ∈ am_tg := am_tg_in (List.mem_append_left _ (by decide +kernel)) (by decide +kernel)
def mX12_isDigit : am_M := (yX12_isDigit, cX12_isDigit, 1, some .boolean, [])
theorem tmX12_isDigit : am_all mX12_isDigit.2.1 ttX12_isDigit = true := tkX12_isDigit
theorem hw_X12_isDigit : Cond.code yX12_isDigit cX12_isDigit 1 (some .boolean) ∈ am_tg := am_t9 123 rfl rfl
theorem ok_X12_isDigit : am_okM mX12_isDigit 1 := ⟨hw_X12_isDigit, am_t1 14 rfl rfl, by decide +kernel, by decide +kernel, by decide⟩
theorem st_X12_isDigit : Cond.static mX12_isDigit.1 ∈ am_tg := am_t9 122 rfl rfl
def mX12_number : am_M := (yX12_number, cX12_number, 5, some .int, [])
theorem tmX12_number_0 : am_all mX12_number.2.1 ttX12_number_0 = true := tkX12_number_0
theorem tmX12_number_1 : am_all mX12_number.2.1 ttX12_number_1 = true := tkX12_number_1
theorem hw_X12_number : Cond.code yX12_number cX12_number 5 (some .int) ∈ am_tg := am_t9 120 rfl rfl
theorem ok_X12_number : am_okM mX12_number 2 := ⟨hw_X12_number, am_t1 14 rfl rfl, by decide +kernel, by decide +kernel, by decide⟩
theorem in_X12_number : Cond.instanceMethod mX12_number.1 ∈ am_tg := am_t9 119 rfl rfl
theorem se_X12_number : Cond.selects mX12_number.1.cls mX12_number.1 mX12_number.1 ∈ am_tg := am_tg_in (List.mem_append_left _ (by decide +kernel)) (by decide +kernel)
def mX12_manyHere : am_M := (yX12_manyHere, cX12_manyHere, 3, some .int, [])
theorem tmX12_manyHere : am_all mX12_manyHere.2.1 ttX12_manyHere = true := tkX12_manyHere
theorem hw_X12_manyHere : Cond.code yX12_manyHere cX12_manyHere 3 (some .int) ∈ am_tg := am_t9 128 rfl rfl
theorem ok_X12_manyHere : am_okM mX12_manyHere 0 := ⟨hw_X12_manyHere, am_t1 14 rfl rfl, by decide +kernel, by decide +kernel, by decide⟩
theorem in_X12_manyHere : Cond.instanceMethod mX12_manyHere.1 ∈ am_tg := am_t9 127 rfl rfl
theorem se_X12_manyHere : Cond.selects mX12_manyHere.1.cls mX12_manyHere.1 mX12_manyHere.1 ∈ am_tg := am_tg_in (List.mem_append_left _ (by decide +kernel)) (by decide +kernel)
def mX12_wordHere : am_M := (yX12_wordHere, cX12_wordHere, 3, some .int, [])
theorem tmX12_wordHere : am_all mX12_wordHere.2.1 ttX12_wordHere = true := tkX12_wordHere
theorem hw_X12_wordHere : Cond.code yX12_wordHere cX12_wordHere 3 (some .int) ∈ am_tg := am_t9 105 rfl rfl
theorem ok_X12_wordHere : am_okM mX12_wordHere 0 := ⟨hw_X12_wordHere, am_t1 14 rfl rfl, by decide +kernel, by decide +kernel, by decide⟩
theorem in_X12_wordHere : Cond.instanceMethod mX12_wordHere.1 ∈ am_tg := am_t9 104 rfl rfl
theorem se_X12_wordHere : Cond.selects mX12_wordHere.1.cls mX12_wordHere.1 mX12_wordHere.1 ∈ am_tg := am_tg_in (List.mem_append_left _ (by decide +kernel)) (by decide +kernel)
def mX12_word : am_M := (yX12_word, cX12_word, 6, some .int, [])
theorem tmX12_word : am_all mX12_word.2.1 ttX12_word = true := tkX12_word
theorem hw_X12_word : Cond.code yX12_word cX12_word 6 (some .int) ∈ am_tg := am_t9 108 rfl rfl
theorem ok_X12_word : am_okM mX12_word 5 := ⟨hw_X12_word, am_t1 14 rfl rfl, by decide +kernel, by decide +kernel, by decide⟩
theorem st_X12_word : Cond.static mX12_word.1 ∈ am_tg := am_t9 107 rfl rfl
def mX12_isWord : am_M := (yX12_isWord, cX12_isWord, 6, some .boolean, [])
theorem tmX12_isWord : am_all mX12_isWord.2.1 ttX12_isWord = true := tkX12_isWord
theorem hw_X12_isWord : Cond.code yX12_isWord cX12_isWord 6 (some .boolean) ∈ am_tg := am_t9 101 rfl rfl
theorem ok_X12_isWord : am_okM mX12_isWord 5 := ⟨hw_X12_isWord, am_t1 14 rfl rfl, by decide +kernel, by decide +kernel, by decide⟩
theorem in_X12_isWord : Cond.instanceMethod mX12_isWord.1 ∈ am_tg := am_t9 100 rfl rfl
theorem se_X12_isWord : Cond.selects mX12_isWord.1.cls mX12_isWord.1 mX12_isWord.1 ∈ am_tg := am_tg_in (List.mem_append_left _ (by decide +kernel)) (by decide +kernel)
def mX12_skipWord : am_M := (yX12_skipWord, cX12_skipWord, 1, none, [])
theorem tmX12_skipWord : am_all mX12_skipWord.2.1 ttX12_skipWord = true := tkX12_skipWord
theorem hw_X12_skipWord : Cond.code yX12_skipWord cX12_skipWord 1 (none) ∈ am_tg := am_t9 116 rfl rfl
theorem ok_X12_skipWord : am_okM mX12_skipWord 0 := ⟨hw_X12_skipWord, am_t1 14 rfl rfl, by decide +kernel, by decide +kernel, by decide⟩
theorem in_X12_skipWord : Cond.instanceMethod mX12_skipWord.1 ∈ am_tg := am_t9 115 rfl rfl
theorem se_X12_skipWord : Cond.selects mX12_skipWord.1.cls mX12_skipWord.1 mX12_skipWord.1 ∈ am_tg := am_tg_in (List.mem_append_left _ (by decide +kernel)) (by decide +kernel)
def mX12_sign : am_M := (yX12_sign, cX12_sign, 2, none, [])
theorem tmX12_sign : am_all mX12_sign.2.1 ttX12_sign = true := tkX12_sign
theorem hw_X12_sign : Cond.code yX12_sign cX12_sign 2 (none) ∈ am_tg := am_t9 132 rfl rfl
theorem ok_X12_sign : am_okM mX12_sign 1 := ⟨hw_X12_sign, am_t1 14 rfl rfl, by decide +kernel, by decide +kernel, by decide⟩
theorem in_X12_sign : Cond.instanceMethod mX12_sign.1 ∈ am_tg := am_t9 131 rfl rfl
theorem se_X12_sign : Cond.selects mX12_sign.1.cls mX12_sign.1 mX12_sign.1 ∈ am_tg := am_tg_in (List.mem_append_left _ (by decide +kernel)) (by decide +kernel)
def mX12_wave : am_M := (yX12_wave, cX12_wave, 4, some .int, [])
theorem tmX12_wave : am_all mX12_wave.2.1 ttX12_wave = true := tkX12_wave
theorem hw_X12_wave : Cond.code yX12_wave cX12_wave 4 (some .int) ∈ am_tg := am_t9 135 rfl rfl
theorem ok_X12_wave : am_okM mX12_wave 3 := ⟨hw_X12_wave, am_t1 14 rfl rfl, by decide +kernel, by decide +kernel, by decide⟩
theorem st_X12_wave : Cond.static mX12_wave.1 ∈ am_tg := am_t9 134 rfl rfl
def mX12_kindHere : am_M := (yX12_kindHere, cX12_kindHere, 1, some .int, [])
theorem tmX12_kindHere : am_all mX12_kindHere.2.1 ttX12_kindHere = true := tkX12_kindHere
theorem hw_X12_kindHere : Cond.code yX12_kindHere cX12_kindHere 1 (some .int) ∈ am_tg := am_t9 97 rfl rfl
theorem ok_X12_kindHere : am_okM mX12_kindHere 0 := ⟨hw_X12_kindHere, am_t1 14 rfl rfl, by decide +kernel, by decide +kernel, by decide⟩
theorem in_X12_kindHere : Cond.instanceMethod mX12_kindHere.1 ∈ am_tg := am_t9 96 rfl rfl
theorem se_X12_kindHere : Cond.selects mX12_kindHere.1.cls mX12_kindHere.1 mX12_kindHere.1 ∈ am_tg := am_tg_in (List.mem_append_left _ (by decide +kernel)) (by decide +kernel)
def mX12_clause : am_M := (yX12_clause, cX12_clause, 8, none, [])
theorem tmX12_clause_0 : am_all mX12_clause.2.1 ttX12_clause_0 = true := tkX12_clause_0
theorem tmX12_clause_1 : am_all mX12_clause.2.1 ttX12_clause_1 = true := tkX12_clause_1
theorem tmX12_clause_2 : am_all mX12_clause.2.1 ttX12_clause_2 = true := tkX12_clause_2
theorem hw_X12_clause : Cond.code yX12_clause cX12_clause 8 (none) ∈ am_tg := am_t9 93 rfl rfl
theorem ok_X12_clause : am_okM mX12_clause 0 := ⟨hw_X12_clause, am_t1 14 rfl rfl, by decide +kernel, by decide +kernel, by decide⟩
theorem in_X12_clause : Cond.instanceMethod mX12_clause.1 ∈ am_tg := am_t9 92 rfl rfl
theorem se_X12_clause : Cond.selects mX12_clause.1.cls mX12_clause.1 mX12_clause.1 ∈ am_tg := am_tg_in (List.mem_append_left _ (by decide +kernel)) (by decide +kernel)
def mX12_begins : am_M := (yX12_begins, cX12_begins, 2, none, [])
theorem tmX12_begins : am_all mX12_begins.2.1 ttX12_begins = true := tkX12_begins
theorem hw_X12_begins : Cond.code yX12_begins cX12_begins 2 (none) ∈ am_tg := am_t9 81 rfl rfl
theorem ok_X12_begins : am_okM mX12_begins 1 := ⟨hw_X12_begins, am_t1 14 rfl rfl, by decide +kernel, by decide +kernel, by decide⟩
theorem in_X12_begins : Cond.instanceMethod mX12_begins.1 ∈ am_tg := am_t9 80 rfl rfl
theorem se_X12_begins : Cond.selects mX12_begins.1.cls mX12_begins.1 mX12_begins.1 ∈ am_tg := am_tg_in (List.mem_append_left _ (by decide +kernel)) (by decide +kernel)
def mX12_sound : am_M := (yX12_sound, cX12_sound, 2, some .int, [])
theorem tmX12_sound_0 : am_all mX12_sound.2.1 ttX12_sound_0 = true := tkX12_sound_0
theorem tmX12_sound_1 : am_all mX12_sound.2.1 ttX12_sound_1 = true := tkX12_sound_1
theorem hw_X12_sound : Cond.code yX12_sound cX12_sound 2 (some .int) ∈ am_tg := am_t9 70 rfl rfl
theorem ok_X12_sound : am_okM mX12_sound 1 := ⟨hw_X12_sound, am_t1 14 rfl rfl, by decide +kernel, by decide +kernel, by decide⟩
theorem in_X12_sound : Cond.instanceMethod mX12_sound.1 ∈ am_tg := am_t9 68 rfl rfl
theorem se_X12_sound : Cond.selects mX12_sound.1.cls mX12_sound.1 mX12_sound.1 ∈ am_tg := am_t9 69 rfl rfl
def mX12_keeps : am_M := (yX12_keeps, cX12_keeps, 4, some .int, [])
theorem tmX12_keeps : am_all mX12_keeps.2.1 ttX12_keeps = true := tkX12_keeps
theorem hw_X12_keeps : Cond.code yX12_keeps cX12_keeps 4 (some .int) ∈ am_tg := am_t9 143 rfl rfl
theorem ok_X12_keeps : am_okM mX12_keeps 2 := ⟨hw_X12_keeps, am_t1 14 rfl rfl, by decide +kernel, by decide +kernel, by decide⟩
theorem in_X12_keeps : Cond.instanceMethod mX12_keeps.1 ∈ am_tg := am_t9 142 rfl rfl
theorem se_X12_keeps : Cond.selects mX12_keeps.1.cls mX12_keeps.1 mX12_keeps.1 ∈ am_tg := am_tg_in (List.mem_append_left _ (by decide +kernel)) (by decide +kernel)
def mX12_mark : am_M := (yX12_mark, cX12_mark, 3, none, [])
theorem tmX12_mark_0 : am_all mX12_mark.2.1 ttX12_mark_0 = true := tkX12_mark_0
theorem tmX12_mark_1 : am_all mX12_mark.2.1 ttX12_mark_1 = true := tkX12_mark_1
theorem hw_X12_mark : Cond.code yX12_mark cX12_mark 3 (none) ∈ am_tg := am_t9 151 rfl rfl
theorem ok_X12_mark : am_okM mX12_mark 0 := ⟨hw_X12_mark, am_t1 14 rfl rfl, by decide +kernel, by decide +kernel, by decide⟩
theorem in_X12_mark : Cond.instanceMethod mX12_mark.1 ∈ am_tg := am_t9 150 rfl rfl
theorem se_X12_mark : Cond.selects mX12_mark.1.cls mX12_mark.1 mX12_mark.1 ∈ am_tg := am_tg_in (List.mem_append_left _ (by decide +kernel)) (by decide +kernel)
def mX12_map : am_M := (yX12_map, cX12_map, 2, some .int, [])
theorem tmX12_map_0 : am_all mX12_map.2.1 ttX12_map_0 = true := tkX12_map_0
theorem tmX12_map_1 : am_all mX12_map.2.1 ttX12_map_1 = true := tkX12_map_1
theorem hw_X12_map : Cond.code yX12_map cX12_map 2 (some .int) ∈ am_tg := am_t9 147 rfl rfl
theorem ok_X12_map : am_okM mX12_map 1 := ⟨hw_X12_map, am_t1 14 rfl rfl, by decide +kernel, by decide +kernel, by decide⟩
theorem in_X12_map : Cond.instanceMethod mX12_map.1 ∈ am_tg := am_t9 145 rfl rfl
theorem se_X12_map : Cond.selects mX12_map.1.cls mX12_map.1 mX12_map.1 ∈ am_tg := am_t9 146 rfl rfl
def mX12_keepsMap : am_M := (yX12_keepsMap, cX12_keepsMap, 3, some .int, [])
theorem tmX12_keepsMap : am_all mX12_keepsMap.2.1 ttX12_keepsMap = true := tkX12_keepsMap
theorem hw_X12_keepsMap : Cond.code yX12_keepsMap cX12_keepsMap 3 (some .int) ∈ am_tg := am_t9 155 rfl rfl
theorem ok_X12_keepsMap : am_okM mX12_keepsMap 1 := ⟨hw_X12_keepsMap, am_t1 14 rfl rfl, by decide +kernel, by decide +kernel, by decide⟩
theorem in_X12_keepsMap : Cond.instanceMethod mX12_keepsMap.1 ∈ am_tg := am_t9 154 rfl rfl
theorem se_X12_keepsMap : Cond.selects mX12_keepsMap.1.cls mX12_keepsMap.1 mX12_keepsMap.1 ∈ am_tg := am_tg_in (List.mem_append_left _ (by decide +kernel)) (by decide +kernel)
def mX12_fault : am_M := (yX12_fault, cX12_fault, 1, some .int, [])
theorem tmX12_fault : am_all mX12_fault.2.1 ttX12_fault = true := tkX12_fault
theorem hw_X12_fault : Cond.code yX12_fault cX12_fault 1 (some .int) ∈ am_tg := am_t9 159 rfl rfl
theorem ok_X12_fault : am_okM mX12_fault 0 := ⟨hw_X12_fault, am_t1 14 rfl rfl, by decide +kernel, by decide +kernel, by decide⟩
theorem in_X12_fault : Cond.instanceMethod mX12_fault.1 ∈ am_tg := am_t9 157 rfl rfl
theorem se_X12_fault : Cond.selects mX12_fault.1.cls mX12_fault.1 mX12_fault.1 ∈ am_tg := am_t9 158 rfl rfl
def mX12_isSound : am_M := (yX12_isSound, cX12_isSound, 2, some .boolean, [])
theorem tmX12_isSound : am_all mX12_isSound.2.1 ttX12_isSound = true := tkX12_isSound
theorem hw_X12_isSound : Cond.code yX12_isSound cX12_isSound 2 (some .boolean) ∈ am_tg := am_t9 167 rfl rfl
theorem ok_X12_isSound : am_okM mX12_isSound 1 := ⟨hw_X12_isSound, am_t1 14 rfl rfl, by decide +kernel, by decide +kernel, by decide⟩
theorem in_X12_isSound : Cond.instanceMethod mX12_isSound.1 ∈ am_tg := am_t9 166 rfl rfl
theorem se_X12_isSound : Cond.selects mX12_isSound.1.cls mX12_isSound.1 mX12_isSound.1 ∈ am_tg := am_tg_in (List.mem_append_left _ (by decide +kernel)) (by decide +kernel)
def mX12_isMap : am_M := (yX12_isMap, cX12_isMap, 2, some .boolean, [])
theorem tmX12_isMap : am_all mX12_isMap.2.1 ttX12_isMap = true := tkX12_isMap
theorem hw_X12_isMap : Cond.code yX12_isMap cX12_isMap 2 (some .boolean) ∈ am_tg := am_t9 179 rfl rfl
theorem ok_X12_isMap : am_okM mX12_isMap 1 := ⟨hw_X12_isMap, am_t1 14 rfl rfl, by decide +kernel, by decide +kernel, by decide⟩
theorem in_X12_isMap : Cond.instanceMethod mX12_isMap.1 ∈ am_tg := am_t9 178 rfl rfl
theorem se_X12_isMap : Cond.selects mX12_isMap.1.cls mX12_isMap.1 mX12_isMap.1 ∈ am_tg := am_tg_in (List.mem_append_left _ (by decide +kernel)) (by decide +kernel)
def mX12_size : am_M := (yX12_size, cX12_size, 2, some .int, [])
theorem tmX12_size : am_all mX12_size.2.1 ttX12_size = true := tkX12_size
theorem hw_X12_size : Cond.code yX12_size cX12_size 2 (some .int) ∈ am_tg := am_t9 163 rfl rfl
theorem ok_X12_size : am_okM mX12_size 1 := ⟨hw_X12_size, am_t1 14 rfl rfl, by decide +kernel, by decide +kernel, by decide⟩
theorem in_X12_size : Cond.instanceMethod mX12_size.1 ∈ am_tg := am_t9 161 rfl rfl
theorem se_X12_size : Cond.selects mX12_size.1.cls mX12_size.1 mX12_size.1 ∈ am_tg := am_t9 162 rfl rfl
def mX12_sample : am_M := (yX12_sample, cX12_sample, 3, some .int, [])
theorem tmX12_sample : am_all mX12_sample.2.1 ttX12_sample = true := tkX12_sample
theorem hw_X12_sample : Cond.code yX12_sample cX12_sample 3 (some .int) ∈ am_tg := am_t9 171 rfl rfl
theorem ok_X12_sample : am_okM mX12_sample 2 := ⟨hw_X12_sample, am_t1 14 rfl rfl, by decide +kernel, by decide +kernel, by decide⟩
theorem in_X12_sample : Cond.instanceMethod mX12_sample.1 ∈ am_tg := am_t9 169 rfl rfl
theorem se_X12_sample : Cond.selects mX12_sample.1.cls mX12_sample.1 mX12_sample.1 ∈ am_tg := am_t9 170 rfl rfl
def mX12_takes : am_M := (yX12_takes, cX12_takes, 3, none, [])
theorem tmX12_takes : am_all mX12_takes.2.1 ttX12_takes = true := tkX12_takes
theorem hw_X12_takes : Cond.code yX12_takes cX12_takes 3 (none) ∈ am_tg := am_t9 199 rfl rfl
theorem ok_X12_takes : am_okM mX12_takes 1 := ⟨hw_X12_takes, am_t1 14 rfl rfl, by decide +kernel, by decide +kernel, by decide⟩
theorem in_X12_takes : Cond.instanceMethod mX12_takes.1 ∈ am_tg := am_t9 198 rfl rfl
theorem se_X12_takes : Cond.selects mX12_takes.1.cls mX12_takes.1 mX12_takes.1 ∈ am_tg := am_tg_in (List.mem_append_left _ (by decide +kernel)) (by decide +kernel)
def mX12_lengthNow : am_M := (yX12_lengthNow, cX12_lengthNow, 1, some .int, [])
theorem tmX12_lengthNow : am_all mX12_lengthNow.2.1 ttX12_lengthNow = true := tkX12_lengthNow
theorem hw_X12_lengthNow : Cond.code yX12_lengthNow cX12_lengthNow 1 (some .int) ∈ am_tg := am_t9 207 rfl rfl
theorem ok_X12_lengthNow : am_okM mX12_lengthNow 0 := ⟨hw_X12_lengthNow, am_t1 14 rfl rfl, by decide +kernel, by decide +kernel, by decide⟩
theorem in_X12_lengthNow : Cond.instanceMethod mX12_lengthNow.1 ∈ am_tg := am_t9 206 rfl rfl
theorem se_X12_lengthNow : Cond.selects mX12_lengthNow.1.cls mX12_lengthNow.1 mX12_lengthNow.1 ∈ am_tg := am_tg_in (List.mem_append_left _ (by decide +kernel)) (by decide +kernel)
def mX12_placeNow : am_M := (yX12_placeNow, cX12_placeNow, 5, some .int, [])
theorem tmX12_placeNow : am_all mX12_placeNow.2.1 ttX12_placeNow = true := tkX12_placeNow
theorem hw_X12_placeNow : Cond.code yX12_placeNow cX12_placeNow 5 (some .int) ∈ am_tg := am_t9 203 rfl rfl
theorem ok_X12_placeNow : am_okM mX12_placeNow 1 := ⟨hw_X12_placeNow, am_t1 14 rfl rfl, by decide +kernel, by decide +kernel, by decide⟩
theorem in_X12_placeNow : Cond.instanceMethod mX12_placeNow.1 ∈ am_tg := am_t9 202 rfl rfl
theorem se_X12_placeNow : Cond.selects mX12_placeNow.1.cls mX12_placeNow.1 mX12_placeNow.1 ∈ am_tg := am_tg_in (List.mem_append_left _ (by decide +kernel)) (by decide +kernel)
def mX12_whereNow : am_M := (yX12_whereNow, cX12_whereNow, 3, some .int, [])
theorem tmX12_whereNow : am_all mX12_whereNow.2.1 ttX12_whereNow = true := tkX12_whereNow
theorem hw_X12_whereNow : Cond.code yX12_whereNow cX12_whereNow 3 (some .int) ∈ am_tg := am_t9 219 rfl rfl
theorem ok_X12_whereNow : am_okM mX12_whereNow 1 := ⟨hw_X12_whereNow, am_t1 14 rfl rfl, by decide +kernel, by decide +kernel, by decide⟩
theorem in_X12_whereNow : Cond.instanceMethod mX12_whereNow.1 ∈ am_tg := am_t9 218 rfl rfl
theorem se_X12_whereNow : Cond.selects mX12_whereNow.1.cls mX12_whereNow.1 mX12_whereNow.1 ∈ am_tg := am_tg_in (List.mem_append_left _ (by decide +kernel)) (by decide +kernel)
def mX12_lastOf : am_M := (yX12_lastOf, cX12_lastOf, 2, some .int, [])
theorem tmX12_lastOf : am_all mX12_lastOf.2.1 ttX12_lastOf = true := tkX12_lastOf
theorem hw_X12_lastOf : Cond.code yX12_lastOf cX12_lastOf 2 (some .int) ∈ am_tg := am_t9 187 rfl rfl
theorem ok_X12_lastOf : am_okM mX12_lastOf 1 := ⟨hw_X12_lastOf, am_t1 14 rfl rfl, by decide +kernel, by decide +kernel, by decide⟩
theorem in_X12_lastOf : Cond.instanceMethod mX12_lastOf.1 ∈ am_tg := am_t9 186 rfl rfl
theorem se_X12_lastOf : Cond.selects mX12_lastOf.1.cls mX12_lastOf.1 mX12_lastOf.1 ∈ am_tg := am_tg_in (List.mem_append_left _ (by decide +kernel)) (by decide +kernel)
def mX12_lengthOf : am_M := (yX12_lengthOf, cX12_lengthOf, 2, some .int, [])
theorem tmX12_lengthOf : am_all mX12_lengthOf.2.1 ttX12_lengthOf = true := tkX12_lengthOf
theorem hw_X12_lengthOf : Cond.code yX12_lengthOf cX12_lengthOf 2 (some .int) ∈ am_tg := am_t9 183 rfl rfl
theorem ok_X12_lengthOf : am_okM mX12_lengthOf 1 := ⟨hw_X12_lengthOf, am_t1 14 rfl rfl, by decide +kernel, by decide +kernel, by decide⟩
theorem in_X12_lengthOf : Cond.instanceMethod mX12_lengthOf.1 ∈ am_tg := am_t9 182 rfl rfl
theorem se_X12_lengthOf : Cond.selects mX12_lengthOf.1.cls mX12_lengthOf.1 mX12_lengthOf.1 ∈ am_tg := am_tg_in (List.mem_append_left _ (by decide +kernel)) (by decide +kernel)
def mX12_told : am_M := (yX12_told, cX12_told, 3, some .int, [])
theorem tmX12_told : am_all mX12_told.2.1 ttX12_told = true := tkX12_told
theorem hw_X12_told : Cond.code yX12_told cX12_told 3 (some .int) ∈ am_tg := am_t9 175 rfl rfl
theorem ok_X12_told : am_okM mX12_told 2 := ⟨hw_X12_told, am_t1 14 rfl rfl, by decide +kernel, by decide +kernel, by decide⟩
theorem in_X12_told : Cond.instanceMethod mX12_told.1 ∈ am_tg := am_t9 173 rfl rfl
theorem se_X12_told : Cond.selects mX12_told.1.cls mX12_told.1 mX12_told.1 ∈ am_tg := am_t9 174 rfl rfl
def mX12_place : am_M := (yX12_place, cX12_place, 4, some .int, [])
theorem tmX12_place : am_all mX12_place.2.1 ttX12_place = true := tkX12_place
theorem hw_X12_place : Cond.code yX12_place cX12_place 4 (some .int) ∈ am_tg := am_t9 191 rfl rfl
theorem ok_X12_place : am_okM mX12_place 2 := ⟨hw_X12_place, am_t1 14 rfl rfl, by decide +kernel, by decide +kernel, by decide⟩
theorem in_X12_place : Cond.instanceMethod mX12_place.1 ∈ am_tg := am_t9 189 rfl rfl
theorem se_X12_place : Cond.selects mX12_place.1.cls mX12_place.1 mX12_place.1 ∈ am_tg := am_t9 190 rfl rfl
def mX12_lays : am_M := (yX12_lays, cX12_lays, 3, none, [])
theorem tmX12_lays_0 : am_all mX12_lays.2.1 ttX12_lays_0 = true := tkX12_lays_0
theorem tmX12_lays_1 : am_all mX12_lays.2.1 ttX12_lays_1 = true := tkX12_lays_1
theorem hw_X12_lays : Cond.code yX12_lays cX12_lays 3 (none) ∈ am_tg := am_t9 195 rfl rfl
theorem ok_X12_lays : am_okM mX12_lays 0 := ⟨hw_X12_lays, am_t1 14 rfl rfl, by decide +kernel, by decide +kernel, by decide⟩
theorem in_X12_lays : Cond.instanceMethod mX12_lays.1 ∈ am_tg := am_t9 194 rfl rfl
theorem se_X12_lays : Cond.selects mX12_lays.1.cls mX12_lays.1 mX12_lays.1 ∈ am_tg := am_tg_in (List.mem_append_left _ (by decide +kernel)) (by decide +kernel)
def mX12_laysBack : am_M := (yX12_laysBack, cX12_laysBack, 3, none, [])
theorem tmX12_laysBack_0 : am_all mX12_laysBack.2.1 ttX12_laysBack_0 = true := tkX12_laysBack_0
theorem tmX12_laysBack_1 : am_all mX12_laysBack.2.1 ttX12_laysBack_1 = true := tkX12_laysBack_1
theorem hw_X12_laysBack : Cond.code yX12_laysBack cX12_laysBack 3 (none) ∈ am_tg := am_t9 211 rfl rfl
theorem ok_X12_laysBack : am_okM mX12_laysBack 0 := ⟨hw_X12_laysBack, am_t1 14 rfl rfl, by decide +kernel, by decide +kernel, by decide⟩
theorem in_X12_laysBack : Cond.instanceMethod mX12_laysBack.1 ∈ am_tg := am_t9 210 rfl rfl
theorem se_X12_laysBack : Cond.selects mX12_laysBack.1.cls mX12_laysBack.1 mX12_laysBack.1 ∈ am_tg := am_tg_in (List.mem_append_left _ (by decide +kernel)) (by decide +kernel)
def mX12_where : am_M := (yX12_where, cX12_where, 4, some .int, [])
theorem tmX12_where : am_all mX12_where.2.1 ttX12_where = true := tkX12_where
theorem hw_X12_where : Cond.code yX12_where cX12_where 4 (some .int) ∈ am_tg := am_t9 215 rfl rfl
theorem ok_X12_where : am_okM mX12_where 2 := ⟨hw_X12_where, am_t1 14 rfl rfl, by decide +kernel, by decide +kernel, by decide⟩
theorem in_X12_where : Cond.instanceMethod mX12_where.1 ∈ am_tg := am_t9 213 rfl rfl
theorem se_X12_where : Cond.selects mX12_where.1.cls mX12_where.1 mX12_where.1 ∈ am_tg := am_t9 214 rfl rfl
def mX12_arePieces : am_M := (yX12_arePieces, cX12_arePieces, 3, some .boolean, [])
theorem tmX12_arePieces : am_all mX12_arePieces.2.1 ttX12_arePieces = true := tkX12_arePieces
theorem hw_X12_arePieces : Cond.code yX12_arePieces cX12_arePieces 3 (some .boolean) ∈ am_tg := am_t9 226 rfl rfl
theorem ok_X12_arePieces : am_okM mX12_arePieces 3 := ⟨hw_X12_arePieces, am_t1 14 rfl rfl, by decide +kernel, by decide +kernel, by decide⟩
theorem st_X12_arePieces : Cond.static mX12_arePieces.1 ∈ am_tg := am_t9 225 rfl rfl
def mX12_pieces : am_M := (yX12_pieces, cX12_pieces, 5, some .int, [])
theorem tmX12_pieces : am_all mX12_pieces.2.1 ttX12_pieces = true := tkX12_pieces
theorem hw_X12_pieces : Cond.code yX12_pieces cX12_pieces 5 (some .int) ∈ am_tg := am_t9 223 rfl rfl
theorem ok_X12_pieces : am_okM mX12_pieces 3 := ⟨hw_X12_pieces, am_t1 14 rfl rfl, by decide +kernel, by decide +kernel, by decide⟩
theorem in_X12_pieces : Cond.instanceMethod mX12_pieces.1 ∈ am_tg := am_t9 221 rfl rfl
theorem se_X12_pieces : Cond.selects mX12_pieces.1.cls mX12_pieces.1 mX12_pieces.1 ∈ am_tg := am_t9 222 rfl rfl
def mX12_unlike : am_M := (yX12_unlike, cX12_unlike, 5, some .int, [])
theorem tmX12_unlike : am_all mX12_unlike.2.1 ttX12_unlike = true := tkX12_unlike
theorem hw_X12_unlike : Cond.code yX12_unlike cX12_unlike 5 (some .int) ∈ am_tg := am_t10 18 rfl rfl
theorem ok_X12_unlike : am_okM mX12_unlike 2 := ⟨hw_X12_unlike, am_t1 14 rfl rfl, by decide +kernel, by decide +kernel, by decide⟩
theorem in_X12_unlike : Cond.instanceMethod mX12_unlike.1 ∈ am_tg := am_t10 17 rfl rfl
theorem se_X12_unlike : Cond.selects mX12_unlike.1.cls mX12_unlike.1 mX12_unlike.1 ∈ am_tg := am_tg_in (List.mem_append_left _ (by decide +kernel)) (by decide +kernel)
def mX12_draws : am_M := (yX12_draws, cX12_draws, 2, none, [])
theorem tmX12_draws : am_all mX12_draws.2.1 ttX12_draws = true := tkX12_draws
theorem hw_X12_draws : Cond.code yX12_draws cX12_draws 2 (none) ∈ am_tg := am_t10 10 rfl rfl
theorem ok_X12_draws : am_okM mX12_draws 0 := ⟨hw_X12_draws, am_t1 14 rfl rfl, by decide +kernel, by decide +kernel, by decide⟩
theorem in_X12_draws : Cond.instanceMethod mX12_draws.1 ∈ am_tg := am_t10 9 rfl rfl
theorem se_X12_draws : Cond.selects mX12_draws.1.cls mX12_draws.1 mX12_draws.1 ∈ am_tg := am_tg_in (List.mem_append_left _ (by decide +kernel)) (by decide +kernel)
def mX12_lies : am_M := (yX12_lies, cX12_lies, 10, none, [])
theorem tmX12_lies_0 : am_all mX12_lies.2.1 ttX12_lies_0 = true := tkX12_lies_0
theorem tmX12_lies_1 : am_all mX12_lies.2.1 ttX12_lies_1 = true := tkX12_lies_1
theorem tmX12_lies_2 : am_all mX12_lies.2.1 ttX12_lies_2 = true := tkX12_lies_2
theorem hw_X12_lies : Cond.code yX12_lies cX12_lies 10 (none) ∈ am_tg := am_t10 14 rfl rfl
theorem ok_X12_lies : am_okM mX12_lies 1 := ⟨hw_X12_lies, am_t1 14 rfl rfl, by decide +kernel, by decide +kernel, by decide⟩
theorem in_X12_lies : Cond.instanceMethod mX12_lies.1 ∈ am_tg := am_t10 13 rfl rfl
theorem se_X12_lies : Cond.selects mX12_lies.1.cls mX12_lies.1 mX12_lies.1 ∈ am_tg := am_tg_in (List.mem_append_left _ (by decide +kernel)) (by decide +kernel)
def mX12_takesSound : am_M := (yX12_takesSound, cX12_takesSound, 3, none, [])
theorem tmX12_takesSound : am_all mX12_takesSound.2.1 ttX12_takesSound = true := tkX12_takesSound
theorem hw_X12_takesSound : Cond.code yX12_takesSound cX12_takesSound 3 (none) ∈ am_tg := am_t10 6 rfl rfl
theorem ok_X12_takesSound : am_okM mX12_takesSound 1 := ⟨hw_X12_takesSound, am_t1 14 rfl rfl, by decide +kernel, by decide +kernel, by decide⟩
theorem in_X12_takesSound : Cond.instanceMethod mX12_takesSound.1 ∈ am_tg := am_t10 5 rfl rfl
theorem se_X12_takesSound : Cond.selects mX12_takesSound.1.cls mX12_takesSound.1 mX12_takesSound.1 ∈ am_tg := am_tg_in (List.mem_append_left _ (by decide +kernel)) (by decide +kernel)
def mX12_isShort : am_M := (yX12_isShort, cX12_isShort, 3, some .boolean, [])
theorem tmX12_isShort : am_all mX12_isShort.2.1 ttX12_isShort = true := tkX12_isShort
theorem hw_X12_isShort : Cond.code yX12_isShort cX12_isShort 3 (some .boolean) ∈ am_tg := am_t9 238 rfl rfl
theorem ok_X12_isShort : am_okM mX12_isShort 2 := ⟨hw_X12_isShort, am_t1 14 rfl rfl, by decide +kernel, by decide +kernel, by decide⟩
theorem in_X12_isShort : Cond.instanceMethod mX12_isShort.1 ∈ am_tg := am_t9 237 rfl rfl
theorem se_X12_isShort : Cond.selects mX12_isShort.1.cls mX12_isShort.1 mX12_isShort.1 ∈ am_tg := am_tg_in (List.mem_append_left _ (by decide +kernel)) (by decide +kernel)
def mX12_badBoth : am_M := (yX12_badBoth, cX12_badBoth, 3, some .boolean, [])
theorem tmX12_badBoth : am_all mX12_badBoth.2.1 ttX12_badBoth = true := tkX12_badBoth
theorem hw_X12_badBoth : Cond.code yX12_badBoth cX12_badBoth 3 (some .boolean) ∈ am_tg := am_t9 234 rfl rfl
theorem ok_X12_badBoth : am_okM mX12_badBoth 2 := ⟨hw_X12_badBoth, am_t1 14 rfl rfl, by decide +kernel, by decide +kernel, by decide⟩
theorem in_X12_badBoth : Cond.instanceMethod mX12_badBoth.1 ∈ am_tg := am_t9 233 rfl rfl
theorem se_X12_badBoth : Cond.selects mX12_badBoth.1.cls mX12_badBoth.1 mX12_badBoth.1 ∈ am_tg := am_tg_in (List.mem_append_left _ (by decide +kernel)) (by decide +kernel)
def mX12_drawsBoth : am_M := (yX12_drawsBoth, cX12_drawsBoth, 3, none, [])
theorem tmX12_drawsBoth : am_all mX12_drawsBoth.2.1 ttX12_drawsBoth = true := tkX12_drawsBoth
theorem hw_X12_drawsBoth : Cond.code yX12_drawsBoth cX12_drawsBoth 3 (none) ∈ am_tg := am_t10 2 rfl rfl
theorem ok_X12_drawsBoth : am_okM mX12_drawsBoth 2 := ⟨hw_X12_drawsBoth, am_t1 14 rfl rfl, by decide +kernel, by decide +kernel, by decide⟩
theorem in_X12_drawsBoth : Cond.instanceMethod mX12_drawsBoth.1 ∈ am_tg := am_t10 1 rfl rfl
theorem se_X12_drawsBoth : Cond.selects mX12_drawsBoth.1.cls mX12_drawsBoth.1 mX12_drawsBoth.1 ∈ am_tg := am_tg_in (List.mem_append_left _ (by decide +kernel)) (by decide +kernel)
def mX12_draw : am_M := (yX12_draw, cX12_draw, 3, some .int, [])
theorem tmX12_draw : am_all mX12_draw.2.1 ttX12_draw = true := tkX12_draw
theorem hw_X12_draw : Cond.code yX12_draw cX12_draw 3 (some .int) ∈ am_tg := am_t9 230 rfl rfl
theorem ok_X12_draw : am_okM mX12_draw 2 := ⟨hw_X12_draw, am_t1 14 rfl rfl, by decide +kernel, by decide +kernel, by decide⟩
theorem in_X12_draw : Cond.instanceMethod mX12_draw.1 ∈ am_tg := am_t9 228 rfl rfl
theorem se_X12_draw : Cond.selects mX12_draw.1.cls mX12_draw.1 mX12_draw.1 ∈ am_tg := am_t9 229 rfl rfl
def mX12_findBlows : am_M := (yX12_findBlows, cX12_findBlows, 7, some .int, [])
theorem tmX12_findBlows_0 : am_all mX12_findBlows.2.1 ttX12_findBlows_0 = true := tkX12_findBlows_0
theorem tmX12_findBlows_1 : am_all mX12_findBlows.2.1 ttX12_findBlows_1 = true := tkX12_findBlows_1
theorem hw_X12_findBlows : Cond.code yX12_findBlows cX12_findBlows 7 (some .int) ∈ am_tg := am_t10 29 rfl rfl
theorem ok_X12_findBlows : am_okM mX12_findBlows 2 := ⟨hw_X12_findBlows, am_t1 14 rfl rfl, by decide +kernel, by decide +kernel, by decide⟩
theorem in_X12_findBlows : Cond.instanceMethod mX12_findBlows.1 ∈ am_tg := am_t10 28 rfl rfl
theorem se_X12_findBlows : Cond.selects mX12_findBlows.1.cls mX12_findBlows.1 mX12_findBlows.1 ∈ am_tg := am_tg_in (List.mem_append_left _ (by decide +kernel)) (by decide +kernel)
def mX12_sharp : am_M := (yX12_sharp, cX12_sharp, 8, some .int, [])
theorem tmX12_sharp_0 : am_all mX12_sharp.2.1 ttX12_sharp_0 = true := tkX12_sharp_0
theorem tmX12_sharp_1 : am_all mX12_sharp.2.1 ttX12_sharp_1 = true := tkX12_sharp_1
theorem hw_X12_sharp : Cond.code yX12_sharp cX12_sharp 8 (some .int) ∈ am_tg := am_t10 25 rfl rfl
theorem ok_X12_sharp : am_okM mX12_sharp 2 := ⟨hw_X12_sharp, am_t1 14 rfl rfl, by decide +kernel, by decide +kernel, by decide⟩
theorem in_X12_sharp : Cond.instanceMethod mX12_sharp.1 ∈ am_tg := am_t10 23 rfl rfl
theorem se_X12_sharp : Cond.selects mX12_sharp.1.cls mX12_sharp.1 mX12_sharp.1 ∈ am_tg := am_t10 24 rfl rfl
def mX12_length : am_M := (yX12_length, cX12_length, 1, some .int, [])
theorem tmX12_length : am_all mX12_length.2.1 ttX12_length = true := tkX12_length
theorem hw_X12_length : Cond.code yX12_length cX12_length 1 (some .int) ∈ am_tg := am_t10 36 rfl rfl
theorem ok_X12_length : am_okM mX12_length 0 := ⟨hw_X12_length, am_t1 14 rfl rfl, by decide +kernel, by decide +kernel, by decide⟩
theorem in_X12_length : Cond.instanceMethod mX12_length.1 ∈ am_tg := am_t10 34 rfl rfl
theorem se_X12_length : Cond.selects mX12_length.1.cls mX12_length.1 mX12_length.1 ∈ am_tg := am_t10 35 rfl rfl
def mX12_result : am_M := (yX12_result, cX12_result, 2, some .int, [])
theorem tmX12_result : am_all mX12_result.2.1 ttX12_result = true := tkX12_result
theorem hw_X12_result : Cond.code yX12_result cX12_result 2 (some .int) ∈ am_tg := am_t10 40 rfl rfl
theorem ok_X12_result : am_okM mX12_result 1 := ⟨hw_X12_result, am_t1 14 rfl rfl, by decide +kernel, by decide +kernel, by decide⟩
theorem in_X12_result : Cond.instanceMethod mX12_result.1 ∈ am_tg := am_t10 38 rfl rfl
theorem se_X12_result : Cond.selects mX12_result.1.cls mX12_result.1 mX12_result.1 ∈ am_tg := am_t10 39 rfl rfl
def mX12_seam : am_M := (yX12_seam, cX12_seam, 3, some .int, [])
theorem tmX12_seam : am_all mX12_seam.2.1 ttX12_seam = true := tkX12_seam
theorem hw_X12_seam : Cond.code yX12_seam cX12_seam 3 (some .int) ∈ am_tg := am_t10 44 rfl rfl
theorem ok_X12_seam : am_okM mX12_seam 2 := ⟨hw_X12_seam, am_t1 14 rfl rfl, by decide +kernel, by decide +kernel, by decide⟩
theorem in_X12_seam : Cond.instanceMethod mX12_seam.1 ∈ am_tg := am_t10 42 rfl rfl
theorem se_X12_seam : Cond.selects mX12_seam.1.cls mX12_seam.1 mX12_seam.1 ∈ am_tg := am_t10 43 rfl rfl
def mX12_keep : am_M := (yX12_keep, cX12_keep, 1, some .int, [])
theorem tmX12_keep : am_all mX12_keep.2.1 ttX12_keep = true := tkX12_keep
theorem hw_X12_keep : Cond.code yX12_keep cX12_keep 1 (some .int) ∈ am_tg := am_t10 48 rfl rfl
theorem ok_X12_keep : am_okM mX12_keep 0 := ⟨hw_X12_keep, am_t1 14 rfl rfl, by decide +kernel, by decide +kernel, by decide⟩
theorem in_X12_keep : Cond.instanceMethod mX12_keep.1 ∈ am_tg := am_t10 46 rfl rfl
theorem se_X12_keep : Cond.selects mX12_keep.1.cls mX12_keep.1 mX12_keep.1 ∈ am_tg := am_t10 47 rfl rfl
def mX12_blowing : am_M := (yX12_blowing, cX12_blowing, 5, some .int, [])
theorem tmX12_blowing : am_all mX12_blowing.2.1 ttX12_blowing = true := tkX12_blowing
theorem hw_X12_blowing : Cond.code yX12_blowing cX12_blowing 5 (some .int) ∈ am_tg := am_t10 52 rfl rfl
theorem ok_X12_blowing : am_okM mX12_blowing 3 := ⟨hw_X12_blowing, am_t1 14 rfl rfl, by decide +kernel, by decide +kernel, by decide⟩
theorem in_X12_blowing : Cond.instanceMethod mX12_blowing.1 ∈ am_tg := am_t10 50 rfl rfl
theorem se_X12_blowing : Cond.selects mX12_blowing.1.cls mX12_blowing.1 mX12_blowing.1 ∈ am_tg := am_t10 51 rfl rfl
def mX12_blow : am_M := (yX12_blow, cX12_blow, 4, some .int, [])
theorem tmX12_blow : am_all mX12_blow.2.1 ttX12_blow = true := tkX12_blow
theorem hw_X12_blow : Cond.code yX12_blow cX12_blow 4 (some .int) ∈ am_tg := am_t10 56 rfl rfl
theorem ok_X12_blow : am_okM mX12_blow 2 := ⟨hw_X12_blow, am_t1 14 rfl rfl, by decide +kernel, by decide +kernel, by decide⟩
theorem in_X12_blow : Cond.instanceMethod mX12_blow.1 ∈ am_tg := am_t10 54 rfl rfl
theorem se_X12_blow : Cond.selects mX12_blow.1.cls mX12_blow.1 mX12_blow.1 ∈ am_tg := am_t10 55 rfl rfl
def mX12_blows : am_M := (yX12_blows, cX12_blows, 1, some .int, [])
theorem tmX12_blows : am_all mX12_blows.2.1 ttX12_blows = true := tkX12_blows
theorem hw_X12_blows : Cond.code yX12_blows cX12_blows 1 (some .int) ∈ am_tg := am_t10 60 rfl rfl
theorem ok_X12_blows : am_okM mX12_blows 0 := ⟨hw_X12_blows, am_t1 14 rfl rfl, by decide +kernel, by decide +kernel, by decide⟩
theorem in_X12_blows : Cond.instanceMethod mX12_blows.1 ∈ am_tg := am_t10 58 rfl rfl
theorem se_X12_blows : Cond.selects mX12_blows.1.cls mX12_blows.1 mX12_blows.1 ∈ am_tg := am_t10 59 rfl rfl
def mX12_fromAt : am_M := (yX12_fromAt, cX12_fromAt, 2, some .int, [])
theorem tmX12_fromAt : am_all mX12_fromAt.2.1 ttX12_fromAt = true := tkX12_fromAt
theorem hw_X12_fromAt : Cond.code yX12_fromAt cX12_fromAt 2 (some .int) ∈ am_tg := am_t10 84 rfl rfl
theorem ok_X12_fromAt : am_okM mX12_fromAt 1 := ⟨hw_X12_fromAt, am_t1 14 rfl rfl, by decide +kernel, by decide +kernel, by decide⟩
theorem in_X12_fromAt : Cond.instanceMethod mX12_fromAt.1 ∈ am_tg := am_t10 83 rfl rfl
theorem se_X12_fromAt : Cond.selects mX12_fromAt.1.cls mX12_fromAt.1 mX12_fromAt.1 ∈ am_tg := am_tg_in (List.mem_append_left _ (by decide +kernel)) (by decide +kernel)
def mX12_smear : am_M := (yX12_smear, cX12_smear, 9, some .int, [])
theorem tmX12_smear_0 : am_all mX12_smear.2.1 ttX12_smear_0 = true := tkX12_smear_0
theorem tmX12_smear_1 : am_all mX12_smear.2.1 ttX12_smear_1 = true := tkX12_smear_1
theorem hw_X12_smear : Cond.code yX12_smear cX12_smear 9 (some .int) ∈ am_tg := am_t10 76 rfl rfl
theorem ok_X12_smear : am_okM mX12_smear 0 := ⟨hw_X12_smear, am_t1 14 rfl rfl, by decide +kernel, by decide +kernel, by decide⟩
theorem in_X12_smear : Cond.instanceMethod mX12_smear.1 ∈ am_tg := am_t10 75 rfl rfl
theorem se_X12_smear : Cond.selects mX12_smear.1.cls mX12_smear.1 mX12_smear.1 ∈ am_tg := am_tg_in (List.mem_append_left _ (by decide +kernel)) (by decide +kernel)
def mX12_isStill : am_M := (yX12_isStill, cX12_isStill, 3, some .boolean, [])
theorem tmX12_isStill : am_all mX12_isStill.2.1 ttX12_isStill = true := tkX12_isStill
theorem hw_X12_isStill : Cond.code yX12_isStill cX12_isStill 3 (some .boolean) ∈ am_tg := am_t10 80 rfl rfl
theorem ok_X12_isStill : am_okM mX12_isStill 1 := ⟨hw_X12_isStill, am_t1 14 rfl rfl, by decide +kernel, by decide +kernel, by decide⟩
theorem in_X12_isStill : Cond.instanceMethod mX12_isStill.1 ∈ am_tg := am_t10 79 rfl rfl
theorem se_X12_isStill : Cond.selects mX12_isStill.1.cls mX12_isStill.1 mX12_isStill.1 ∈ am_tg := am_tg_in (List.mem_append_left _ (by decide +kernel)) (by decide +kernel)
def mX12_harmOf : am_M := (yX12_harmOf, cX12_harmOf, 4, some .int, [])
theorem tmX12_harmOf_0 : am_all mX12_harmOf.2.1 ttX12_harmOf_0 = true := tkX12_harmOf_0
theorem tmX12_harmOf_1 : am_all mX12_harmOf.2.1 ttX12_harmOf_1 = true := tkX12_harmOf_1
theorem hw_X12_harmOf : Cond.code yX12_harmOf cX12_harmOf 4 (some .int) ∈ am_tg := am_t10 72 rfl rfl
theorem ok_X12_harmOf : am_okM mX12_harmOf 1 := ⟨hw_X12_harmOf, am_t1 14 rfl rfl, by decide +kernel, by decide +kernel, by decide⟩
theorem in_X12_harmOf : Cond.instanceMethod mX12_harmOf.1 ∈ am_tg := am_t10 71 rfl rfl
theorem se_X12_harmOf : Cond.selects mX12_harmOf.1.cls mX12_harmOf.1 mX12_harmOf.1 ∈ am_tg := am_tg_in (List.mem_append_left _ (by decide +kernel)) (by decide +kernel)
def mX12_counted : am_M := (yX12_counted, cX12_counted, 4, some .int, [])
theorem tmX12_counted : am_all mX12_counted.2.1 ttX12_counted = true := tkX12_counted
theorem hw_X12_counted : Cond.code yX12_counted cX12_counted 4 (some .int) ∈ am_tg := am_t10 68 rfl rfl
theorem ok_X12_counted : am_okM mX12_counted 0 := ⟨hw_X12_counted, am_t1 14 rfl rfl, by decide +kernel, by decide +kernel, by decide⟩
theorem in_X12_counted : Cond.instanceMethod mX12_counted.1 ∈ am_tg := am_t10 67 rfl rfl
theorem se_X12_counted : Cond.selects mX12_counted.1.cls mX12_counted.1 mX12_counted.1 ∈ am_tg := am_tg_in (List.mem_append_left _ (by decide +kernel)) (by decide +kernel)
def mX12_harm : am_M := (yX12_harm, cX12_harm, 2, some .int, [])
theorem tmX12_harm : am_all mX12_harm.2.1 ttX12_harm = true := tkX12_harm
theorem hw_X12_harm : Cond.code yX12_harm cX12_harm 2 (some .int) ∈ am_tg := am_t10 64 rfl rfl
theorem ok_X12_harm : am_okM mX12_harm 1 := ⟨hw_X12_harm, am_t1 14 rfl rfl, by decide +kernel, by decide +kernel, by decide⟩
theorem in_X12_harm : Cond.instanceMethod mX12_harm.1 ∈ am_tg := am_t10 62 rfl rfl
theorem se_X12_harm : Cond.selects mX12_harm.1.cls mX12_harm.1 mX12_harm.1 ∈ am_tg := am_t10 63 rfl rfl
def mX12_weigh : am_M := (yX12_weigh, cX12_weigh, 4, some .int, [])
theorem tmX12_weigh : am_all mX12_weigh.2.1 ttX12_weigh = true := tkX12_weigh
theorem hw_X12_weigh : Cond.code yX12_weigh cX12_weigh 4 (some .int) ∈ am_tg := am_t10 90 rfl rfl
theorem ok_X12_weigh : am_okM mX12_weigh 2 := ⟨hw_X12_weigh, am_t1 14 rfl rfl, by decide +kernel, by decide +kernel, by decide⟩
theorem in_X12_weigh : Cond.instanceMethod mX12_weigh.1 ∈ am_tg := am_t10 88 rfl rfl
theorem se_X12_weigh : Cond.selects mX12_weigh.1.cls mX12_weigh.1 mX12_weigh.1 ∈ am_tg := am_t10 89 rfl rfl
def mX12_way : am_M := (yX12_way, cX12_way, 4, some .int, [])
theorem tmX12_way : am_all mX12_way.2.1 ttX12_way = true := tkX12_way
theorem hw_X12_way : Cond.code yX12_way cX12_way 4 (some .int) ∈ am_tg := am_t10 94 rfl rfl
theorem ok_X12_way : am_okM mX12_way 3 := ⟨hw_X12_way, am_t1 14 rfl rfl, by decide +kernel, by decide +kernel, by decide⟩
theorem in_X12_way : Cond.instanceMethod mX12_way.1 ∈ am_tg := am_t10 92 rfl rfl
theorem se_X12_way : Cond.selects mX12_way.1.cls mX12_way.1 mX12_way.1 ∈ am_tg := am_t10 93 rfl rfl
def mX12_isSomeShort : am_M := (yX12_isSomeShort, cX12_isSomeShort, 4, some .boolean, [])
theorem tmX12_isSomeShort : am_all mX12_isSomeShort.2.1 ttX12_isSomeShort = true := tkX12_isSomeShort
theorem hw_X12_isSomeShort : Cond.code yX12_isSomeShort cX12_isSomeShort 4 (some .boolean) ∈ am_tg := am_t10 102 rfl rfl
theorem ok_X12_isSomeShort : am_okM mX12_isSomeShort 2 := ⟨hw_X12_isSomeShort, am_t1 14 rfl rfl, by decide +kernel, by decide +kernel, by decide⟩
theorem in_X12_isSomeShort : Cond.instanceMethod mX12_isSomeShort.1 ∈ am_tg := am_t10 101 rfl rfl
theorem se_X12_isSomeShort : Cond.selects mX12_isSomeShort.1.cls mX12_isSomeShort.1 mX12_isSomeShort.1 ∈ am_tg := am_tg_in (List.mem_append_left _ (by decide +kernel)) (by decide +kernel)
def mX12_bestWay : am_M := (yX12_bestWay, cX12_bestWay, 11, some .int, [])
theorem tmX12_bestWay_0 : am_all mX12_bestWay.2.1 ttX12_bestWay_0 = true := tkX12_bestWay_0
theorem tmX12_bestWay_1 : am_all mX12_bestWay.2.1 ttX12_bestWay_1 = true := tkX12_bestWay_1
theorem hw_X12_bestWay : Cond.code yX12_bestWay cX12_bestWay 11 (some .int) ∈ am_tg := am_t10 106 rfl rfl
theorem ok_X12_bestWay : am_okM mX12_bestWay 3 := ⟨hw_X12_bestWay, am_t1 14 rfl rfl, by decide +kernel, by decide +kernel, by decide⟩
theorem in_X12_bestWay : Cond.instanceMethod mX12_bestWay.1 ∈ am_tg := am_t10 105 rfl rfl
theorem se_X12_bestWay : Cond.selects mX12_bestWay.1.cls mX12_bestWay.1 mX12_bestWay.1 ∈ am_tg := am_tg_in (List.mem_append_left _ (by decide +kernel)) (by decide +kernel)
def mX12_unlikeOf : am_M := (yX12_unlikeOf, cX12_unlikeOf, 4, some .int, [])
theorem tmX12_unlikeOf : am_all mX12_unlikeOf.2.1 ttX12_unlikeOf = true := tkX12_unlikeOf
theorem hw_X12_unlikeOf : Cond.code yX12_unlikeOf cX12_unlikeOf 4 (some .int) ∈ am_tg := am_t10 110 rfl rfl
theorem ok_X12_unlikeOf : am_okM mX12_unlikeOf 1 := ⟨hw_X12_unlikeOf, am_t1 14 rfl rfl, by decide +kernel, by decide +kernel, by decide⟩
theorem in_X12_unlikeOf : Cond.instanceMethod mX12_unlikeOf.1 ∈ am_tg := am_t10 109 rfl rfl
theorem se_X12_unlikeOf : Cond.selects mX12_unlikeOf.1.cls mX12_unlikeOf.1 mX12_unlikeOf.1 ∈ am_tg := am_tg_in (List.mem_append_left _ (by decide +kernel)) (by decide +kernel)
def mX12_best : am_M := (yX12_best, cX12_best, 3, some .int, [])
theorem tmX12_best : am_all mX12_best.2.1 ttX12_best = true := tkX12_best
theorem hw_X12_best : Cond.code yX12_best cX12_best 3 (some .int) ∈ am_tg := am_t10 98 rfl rfl
theorem ok_X12_best : am_okM mX12_best 2 := ⟨hw_X12_best, am_t1 14 rfl rfl, by decide +kernel, by decide +kernel, by decide⟩
theorem in_X12_best : Cond.instanceMethod mX12_best.1 ∈ am_tg := am_t10 96 rfl rfl
theorem se_X12_best : Cond.selects mX12_best.1.cls mX12_best.1 mX12_best.1 ∈ am_tg := am_t10 97 rfl rfl
def mX12_bestOf : am_M := (yX12_bestOf, cX12_bestOf, 4, some .int, [])
theorem tmX12_bestOf : am_all mX12_bestOf.2.1 ttX12_bestOf = true := tkX12_bestOf
theorem hw_X12_bestOf : Cond.code yX12_bestOf cX12_bestOf 4 (some .int) ∈ am_tg := am_t10 114 rfl rfl
theorem ok_X12_bestOf : am_okM mX12_bestOf 3 := ⟨hw_X12_bestOf, am_t1 14 rfl rfl, by decide +kernel, by decide +kernel, by decide⟩
theorem in_X12_bestOf : Cond.instanceMethod mX12_bestOf.1 ∈ am_tg := am_t10 112 rfl rfl
theorem se_X12_bestOf : Cond.selects mX12_bestOf.1.cls mX12_bestOf.1 mX12_bestOf.1 ∈ am_tg := am_t10 113 rfl rfl
def mX12_part : am_M := (yX12_part, cX12_part, 5, some .int, [])
theorem tmX12_part_0 : am_all mX12_part.2.1 ttX12_part_0 = true := tkX12_part_0
theorem tmX12_part_1 : am_all mX12_part.2.1 ttX12_part_1 = true := tkX12_part_1
theorem hw_X12_part : Cond.code yX12_part cX12_part 5 (some .int) ∈ am_tg := am_t10 118 rfl rfl
theorem ok_X12_part : am_okM mX12_part 4 := ⟨hw_X12_part, am_t1 14 rfl rfl, by decide +kernel, by decide +kernel, by decide⟩
theorem in_X12_part : Cond.instanceMethod mX12_part.1 ∈ am_tg := am_t10 116 rfl rfl
theorem se_X12_part : Cond.selects mX12_part.1.cls mX12_part.1 mX12_part.1 ∈ am_tg := am_t10 117 rfl rfl
def mX12_plans : am_M := (yX12_plans, cX12_plans, 6, some .boolean, [])
theorem tmX12_plans_0 : am_all mX12_plans.2.1 ttX12_plans_0 = true := tkX12_plans_0
theorem tmX12_plans_1 : am_all mX12_plans.2.1 ttX12_plans_1 = true := tkX12_plans_1
theorem hw_X12_plans : Cond.code yX12_plans cX12_plans 6 (some .boolean) ∈ am_tg := am_t10 126 rfl rfl
theorem ok_X12_plans : am_okM mX12_plans 1 := ⟨hw_X12_plans, am_t1 14 rfl rfl, by decide +kernel, by decide +kernel, by decide⟩
theorem in_X12_plans : Cond.instanceMethod mX12_plans.1 ∈ am_tg := am_t10 125 rfl rfl
theorem se_X12_plans : Cond.selects mX12_plans.1.cls mX12_plans.1 mX12_plans.1 ∈ am_tg := am_tg_in (List.mem_append_left _ (by decide +kernel)) (by decide +kernel)
def mX12_planned : am_M := (yX12_planned, cX12_planned, 5, some .int, [])
theorem tmX12_planned_0 : am_all mX12_planned.2.1 ttX12_planned_0 = true := tkX12_planned_0
theorem tmX12_planned_1 : am_all mX12_planned.2.1 ttX12_planned_1 = true := tkX12_planned_1
theorem hw_X12_planned : Cond.code yX12_planned cX12_planned 5 (some .int) ∈ am_tg := am_t10 122 rfl rfl
theorem ok_X12_planned : am_okM mX12_planned 2 := ⟨hw_X12_planned, am_t1 14 rfl rfl, by decide +kernel, by decide +kernel, by decide⟩
theorem in_X12_planned : Cond.instanceMethod mX12_planned.1 ∈ am_tg := am_t10 120 rfl rfl
theorem se_X12_planned : Cond.selects mX12_planned.1.cls mX12_planned.1 mX12_planned.1 ∈ am_tg := am_t10 121 rfl rfl
def mX12_planMap : am_M := (yX12_planMap, cX12_planMap, 6, some .int, [])
theorem tmX12_planMap_0 : am_all mX12_planMap.2.1 ttX12_planMap_0 = true := tkX12_planMap_0
theorem tmX12_planMap_1 : am_all mX12_planMap.2.1 ttX12_planMap_1 = true := tkX12_planMap_1
theorem hw_X12_planMap : Cond.code yX12_planMap cX12_planMap 6 (some .int) ∈ am_tg := am_t10 130 rfl rfl
theorem ok_X12_planMap : am_okM mX12_planMap 1 := ⟨hw_X12_planMap, am_t1 14 rfl rfl, by decide +kernel, by decide +kernel, by decide⟩
theorem in_X12_planMap : Cond.instanceMethod mX12_planMap.1 ∈ am_tg := am_t10 128 rfl rfl
theorem se_X12_planMap : Cond.selects mX12_planMap.1.cls mX12_planMap.1 mX12_planMap.1 ∈ am_tg := am_t10 129 rfl rfl
def mX12_badRow : am_M := (yX12_badRow, cX12_badRow, 4, some .boolean, [])
theorem tmX12_badRow : am_all mX12_badRow.2.1 ttX12_badRow = true := tkX12_badRow
theorem hw_X12_badRow : Cond.code yX12_badRow cX12_badRow 4 (some .boolean) ∈ am_tg := am_t10 138 rfl rfl
theorem ok_X12_badRow : am_okM mX12_badRow 3 := ⟨hw_X12_badRow, am_t1 14 rfl rfl, by decide +kernel, by decide +kernel, by decide⟩
theorem in_X12_badRow : Cond.instanceMethod mX12_badRow.1 ∈ am_tg := am_t10 137 rfl rfl
theorem se_X12_badRow : Cond.selects mX12_badRow.1.cls mX12_badRow.1 mX12_badRow.1 ∈ am_tg := am_tg_in (List.mem_append_left _ (by decide +kernel)) (by decide +kernel)
def mX12_pitch : am_M := (yX12_pitch, cX12_pitch, 13, some .int, [])
theorem tmX12_pitch_0 : am_all mX12_pitch.2.1 ttX12_pitch_0 = true := tkX12_pitch_0
theorem tmX12_pitch_1 : am_all mX12_pitch.2.1 ttX12_pitch_1 = true := tkX12_pitch_1
theorem hw_X12_pitch : Cond.code yX12_pitch cX12_pitch 13 (some .int) ∈ am_tg := am_t10 134 rfl rfl
theorem ok_X12_pitch : am_okM mX12_pitch 3 := ⟨hw_X12_pitch, am_t1 14 rfl rfl, by decide +kernel, by decide +kernel, by decide⟩
theorem in_X12_pitch : Cond.instanceMethod mX12_pitch.1 ∈ am_tg := am_t10 132 rfl rfl
theorem se_X12_pitch : Cond.selects mX12_pitch.1.cls mX12_pitch.1 mX12_pitch.1 ∈ am_tg := am_t10 133 rfl rfl
def mX12_half : am_M := (yX12_half, cX12_half, 2, some .int, [])
theorem tmX12_half : am_all mX12_half.2.1 ttX12_half = true := tkX12_half
theorem hw_X12_half : Cond.code yX12_half cX12_half 2 (some .int) ∈ am_tg := am_t10 149 rfl rfl
theorem ok_X12_half : am_okM mX12_half 2 := ⟨hw_X12_half, am_t1 14 rfl rfl, by decide +kernel, by decide +kernel, by decide⟩
theorem st_X12_half : Cond.static mX12_half.1 ∈ am_tg := am_t10 148 rfl rfl
def mX12_turnedBy : am_M := (yX12_turnedBy, cX12_turnedBy, 8, some .int, [])
theorem tmX12_turnedBy : am_all mX12_turnedBy.2.1 ttX12_turnedBy = true := tkX12_turnedBy
theorem hw_X12_turnedBy : Cond.code yX12_turnedBy cX12_turnedBy 8 (some .int) ∈ am_tg := am_t10 146 rfl rfl
theorem ok_X12_turnedBy : am_okM mX12_turnedBy 5 := ⟨hw_X12_turnedBy, am_t1 14 rfl rfl, by decide +kernel, by decide +kernel, by decide⟩
theorem in_X12_turnedBy : Cond.instanceMethod mX12_turnedBy.1 ∈ am_tg := am_t10 145 rfl rfl
theorem se_X12_turnedBy : Cond.selects mX12_turnedBy.1.cls mX12_turnedBy.1 mX12_turnedBy.1 ∈ am_tg := am_tg_in (List.mem_append_left _ (by decide +kernel)) (by decide +kernel)
def mX12_strengthOf : am_M := (yX12_strengthOf, cX12_strengthOf, 9, some .long, [])
theorem tmX12_strengthOf : am_all mX12_strengthOf.2.1 ttX12_strengthOf = true := tkX12_strengthOf
theorem hw_X12_strengthOf : Cond.code yX12_strengthOf cX12_strengthOf 9 (some .long) ∈ am_tg := am_t10 153 rfl rfl
theorem ok_X12_strengthOf : am_okM mX12_strengthOf 4 := ⟨hw_X12_strengthOf, am_t1 14 rfl rfl, by decide +kernel, by decide +kernel, by decide⟩
theorem in_X12_strengthOf : Cond.instanceMethod mX12_strengthOf.1 ∈ am_tg := am_t10 152 rfl rfl
theorem se_X12_strengthOf : Cond.selects mX12_strengthOf.1.cls mX12_strengthOf.1 mX12_strengthOf.1 ∈ am_tg := am_tg_in (List.mem_append_left _ (by decide +kernel)) (by decide +kernel)
def mX12_turned : am_M := (yX12_turned, cX12_turned, 8, some .long, [])
theorem tmX12_turned_0 : am_all mX12_turned.2.1 ttX12_turned_0 = true := tkX12_turned_0
theorem tmX12_turned_1 : am_all mX12_turned.2.1 ttX12_turned_1 = true := tkX12_turned_1
theorem hw_X12_turned : Cond.code yX12_turned cX12_turned 8 (some .long) ∈ am_tg := am_t10 142 rfl rfl
theorem ok_X12_turned : am_okM mX12_turned 5 := ⟨hw_X12_turned, am_t1 14 rfl rfl, by decide +kernel, by decide +kernel, by decide⟩
theorem in_X12_turned : Cond.instanceMethod mX12_turned.1 ∈ am_tg := am_t10 140 rfl rfl
theorem se_X12_turned : Cond.selects mX12_turned.1.cls mX12_turned.1 mX12_turned.1 ∈ am_tg := am_t10 141 rfl rfl
def mX12_loudest : am_M := (yX12_loudest, cX12_loudest, 6, some .int, [])
theorem tmX12_loudest : am_all mX12_loudest.2.1 ttX12_loudest = true := tkX12_loudest
theorem hw_X12_loudest : Cond.code yX12_loudest cX12_loudest 6 (some .int) ∈ am_tg := am_t10 160 rfl rfl
theorem ok_X12_loudest : am_okM mX12_loudest 4 := ⟨hw_X12_loudest, am_t1 14 rfl rfl, by decide +kernel, by decide +kernel, by decide⟩
theorem st_X12_loudest : Cond.static mX12_loudest.1 ∈ am_tg := am_t10 159 rfl rfl
def mX12_sing : am_M := (yX12_sing, cX12_sing, 6, some .int, [])
theorem tmX12_sing_0 : am_all mX12_sing.2.1 ttX12_sing_0 = true := tkX12_sing_0
theorem tmX12_sing_1 : am_all mX12_sing.2.1 ttX12_sing_1 = true := tkX12_sing_1
theorem hw_X12_sing : Cond.code yX12_sing cX12_sing 6 (some .int) ∈ am_tg := am_t10 157 rfl rfl
theorem ok_X12_sing : am_okM mX12_sing 4 := ⟨hw_X12_sing, am_t1 14 rfl rfl, by decide +kernel, by decide +kernel, by decide⟩
theorem in_X12_sing : Cond.instanceMethod mX12_sing.1 ∈ am_tg := am_t10 155 rfl rfl
theorem se_X12_sing : Cond.selects mX12_sing.1.cls mX12_sing.1 mX12_sing.1 ∈ am_tg := am_t10 156 rfl rfl
def mX12_jump : am_M := (yX12_jump, cX12_jump, 3, some .int, [])
theorem tmX12_jump : am_all mX12_jump.2.1 ttX12_jump = true := tkX12_jump
theorem hw_X12_jump : Cond.code yX12_jump cX12_jump 3 (some .int) ∈ am_tg := am_t10 164 rfl rfl
theorem ok_X12_jump : am_okM mX12_jump 0 := ⟨hw_X12_jump, am_t1 14 rfl rfl, by decide +kernel, by decide +kernel, by decide⟩
theorem in_X12_jump : Cond.instanceMethod mX12_jump.1 ∈ am_tg := am_t10 162 rfl rfl
theorem se_X12_jump : Cond.selects mX12_jump.1.cls mX12_jump.1 mX12_jump.1 ∈ am_tg := am_t10 163 rfl rfl
def mX12_findCrossings : am_M := (yX12_findCrossings, cX12_findCrossings, 4, some .int, [])
theorem tmX12_findCrossings : am_all mX12_findCrossings.2.1 ttX12_findCrossings = true := tkX12_findCrossings
theorem hw_X12_findCrossings : Cond.code yX12_findCrossings cX12_findCrossings 4 (some .int) ∈ am_tg := am_t10 172 rfl rfl
theorem ok_X12_findCrossings : am_okM mX12_findCrossings 1 := ⟨hw_X12_findCrossings, am_t1 14 rfl rfl, by decide +kernel, by decide +kernel, by decide⟩
theorem in_X12_findCrossings : Cond.instanceMethod mX12_findCrossings.1 ∈ am_tg := am_t10 171 rfl rfl
theorem se_X12_findCrossings : Cond.selects mX12_findCrossings.1.cls mX12_findCrossings.1 mX12_findCrossings.1 ∈ am_tg := am_tg_in (List.mem_append_left _ (by decide +kernel)) (by decide +kernel)
def mX12_crossing : am_M := (yX12_crossing, cX12_crossing, 4, some .int, [])
theorem tmX12_crossing : am_all mX12_crossing.2.1 ttX12_crossing = true := tkX12_crossing
theorem hw_X12_crossing : Cond.code yX12_crossing cX12_crossing 4 (some .int) ∈ am_tg := am_t10 168 rfl rfl
theorem ok_X12_crossing : am_okM mX12_crossing 2 := ⟨hw_X12_crossing, am_t1 14 rfl rfl, by decide +kernel, by decide +kernel, by decide⟩
theorem in_X12_crossing : Cond.instanceMethod mX12_crossing.1 ∈ am_tg := am_t10 166 rfl rfl
theorem se_X12_crossing : Cond.selects mX12_crossing.1.cls mX12_crossing.1 mX12_crossing.1 ∈ am_tg := am_t10 167 rfl rfl
def mX12_periodOf : am_M := (yX12_periodOf, cX12_periodOf, 3, some .int, [])
theorem tmX12_periodOf : am_all mX12_periodOf.2.1 ttX12_periodOf = true := tkX12_periodOf
theorem hw_X12_periodOf : Cond.code yX12_periodOf cX12_periodOf 3 (some .int) ∈ am_tg := am_t10 180 rfl rfl
theorem ok_X12_periodOf : am_okM mX12_periodOf 1 := ⟨hw_X12_periodOf, am_t1 14 rfl rfl, by decide +kernel, by decide +kernel, by decide⟩
theorem in_X12_periodOf : Cond.instanceMethod mX12_periodOf.1 ∈ am_tg := am_t10 179 rfl rfl
theorem se_X12_periodOf : Cond.selects mX12_periodOf.1.cls mX12_periodOf.1 mX12_periodOf.1 ∈ am_tg := am_tg_in (List.mem_append_left _ (by decide +kernel)) (by decide +kernel)
def mX12_period : am_M := (yX12_period, cX12_period, 2, some .int, [])
theorem tmX12_period : am_all mX12_period.2.1 ttX12_period = true := tkX12_period
theorem hw_X12_period : Cond.code yX12_period cX12_period 2 (some .int) ∈ am_tg := am_t10 176 rfl rfl
theorem ok_X12_period : am_okM mX12_period 1 := ⟨hw_X12_period, am_t1 14 rfl rfl, by decide +kernel, by decide +kernel, by decide⟩
theorem in_X12_period : Cond.instanceMethod mX12_period.1 ∈ am_tg := am_t10 174 rfl rfl
theorem se_X12_period : Cond.selects mX12_period.1.cls mX12_period.1 mX12_period.1 ∈ am_tg := am_t10 175 rfl rfl
def mX12_hum : am_M := (yX12_hum, cX12_hum, 2, some .int, [])
theorem tmX12_hum : am_all mX12_hum.2.1 ttX12_hum = true := tkX12_hum
theorem hw_X12_hum : Cond.code yX12_hum cX12_hum 2 (some .int) ∈ am_tg := am_t10 184 rfl rfl
theorem ok_X12_hum : am_okM mX12_hum 1 := ⟨hw_X12_hum, am_t1 14 rfl rfl, by decide +kernel, by decide +kernel, by decide⟩
theorem in_X12_hum : Cond.instanceMethod mX12_hum.1 ∈ am_tg := am_t10 182 rfl rfl
theorem se_X12_hum : Cond.selects mX12_hum.1.cls mX12_hum.1 mX12_hum.1 ∈ am_tg := am_t10 183 rfl rfl
def mX12_meant : am_M := (yX12_meant, cX12_meant, 7, some .int, [])
theorem tmX12_meant_0 : am_all mX12_meant.2.1 ttX12_meant_0 = true := tkX12_meant_0
theorem tmX12_meant_1 : am_all mX12_meant.2.1 ttX12_meant_1 = true := tkX12_meant_1
theorem hw_X12_meant : Cond.code yX12_meant cX12_meant 7 (some .int) ∈ am_tg := am_t10 188 rfl rfl
theorem ok_X12_meant : am_okM mX12_meant 2 := ⟨hw_X12_meant, am_t1 14 rfl rfl, by decide +kernel, by decide +kernel, by decide⟩
theorem in_X12_meant : Cond.instanceMethod mX12_meant.1 ∈ am_tg := am_t10 186 rfl rfl
theorem se_X12_meant : Cond.selects mX12_meant.1.cls mX12_meant.1 mX12_meant.1 ∈ am_tg := am_t10 187 rfl rfl
def mX12_oneMark : am_M := (yX12_oneMark, cX12_oneMark, 3, some .int, [])
theorem tmX12_oneMark : am_all mX12_oneMark.2.1 ttX12_oneMark = true := tkX12_oneMark
theorem hw_X12_oneMark : Cond.code yX12_oneMark cX12_oneMark 3 (some .int) ∈ am_tg := am_t10 199 rfl rfl
theorem ok_X12_oneMark : am_okM mX12_oneMark 2 := ⟨hw_X12_oneMark, am_t1 14 rfl rfl, by decide +kernel, by decide +kernel, by decide⟩
theorem in_X12_oneMark : Cond.instanceMethod mX12_oneMark.1 ∈ am_tg := am_t10 198 rfl rfl
theorem se_X12_oneMark : Cond.selects mX12_oneMark.1.cls mX12_oneMark.1 mX12_oneMark.1 ∈ am_tg := am_tg_in (List.mem_append_left _ (by decide +kernel)) (by decide +kernel)
def mX12_undo : am_M := (yX12_undo, cX12_undo, 4, some .int, [])
theorem tmX12_undo_0 : am_all mX12_undo.2.1 ttX12_undo_0 = true := tkX12_undo_0
theorem tmX12_undo_1 : am_all mX12_undo.2.1 ttX12_undo_1 = true := tkX12_undo_1
theorem hw_X12_undo : Cond.code yX12_undo cX12_undo 4 (some .int) ∈ am_tg := am_t10 195 rfl rfl
theorem ok_X12_undo : am_okM mX12_undo 2 := ⟨hw_X12_undo, am_t1 14 rfl rfl, by decide +kernel, by decide +kernel, by decide⟩
theorem in_X12_undo : Cond.instanceMethod mX12_undo.1 ∈ am_tg := am_t10 193 rfl rfl
theorem se_X12_undo : Cond.selects mX12_undo.1.cls mX12_undo.1 mX12_undo.1 ∈ am_tg := am_t10 194 rfl rfl
def mX12_interval : am_M := (yX12_interval, cX12_interval, 2, some .int, [])
theorem tmX12_interval : am_all mX12_interval.2.1 ttX12_interval = true := tkX12_interval
theorem hw_X12_interval : Cond.code yX12_interval cX12_interval 2 (some .int) ∈ am_tg := am_t10 207 rfl rfl
theorem ok_X12_interval : am_okM mX12_interval 1 := ⟨hw_X12_interval, am_t1 14 rfl rfl, by decide +kernel, by decide +kernel, by decide⟩
theorem in_X12_interval : Cond.instanceMethod mX12_interval.1 ∈ am_tg := am_t10 206 rfl rfl
theorem se_X12_interval : Cond.selects mX12_interval.1.cls mX12_interval.1 mX12_interval.1 ∈ am_tg := am_tg_in (List.mem_append_left _ (by decide +kernel)) (by decide +kernel)
def mX12_wobble : am_M := (yX12_wobble, cX12_wobble, 12, some .int, [])
theorem tmX12_wobble_0 : am_all mX12_wobble.2.1 ttX12_wobble_0 = true := tkX12_wobble_0
theorem tmX12_wobble_1 : am_all mX12_wobble.2.1 ttX12_wobble_1 = true := tkX12_wobble_1
theorem tmX12_wobble_2 : am_all mX12_wobble.2.1 ttX12_wobble_2 = true := tkX12_wobble_2
theorem hw_X12_wobble : Cond.code yX12_wobble cX12_wobble 12 (some .int) ∈ am_tg := am_t10 203 rfl rfl
theorem ok_X12_wobble : am_okM mX12_wobble 2 := ⟨hw_X12_wobble, am_t1 14 rfl rfl, by decide +kernel, by decide +kernel, by decide⟩
theorem in_X12_wobble : Cond.instanceMethod mX12_wobble.1 ∈ am_tg := am_t10 201 rfl rfl
theorem se_X12_wobble : Cond.selects mX12_wobble.1.cls mX12_wobble.1 mX12_wobble.1 ∈ am_tg := am_t10 202 rfl rfl
def mX12_offBy : am_M := (yX12_offBy, cX12_offBy, 7, some .int, [])
theorem tmX12_offBy : am_all mX12_offBy.2.1 ttX12_offBy = true := tkX12_offBy
theorem hw_X12_offBy : Cond.code yX12_offBy cX12_offBy 7 (some .int) ∈ am_tg := am_t10 219 rfl rfl
theorem ok_X12_offBy : am_okM mX12_offBy 3 := ⟨hw_X12_offBy, am_t1 14 rfl rfl, by decide +kernel, by decide +kernel, by decide⟩
theorem in_X12_offBy : Cond.instanceMethod mX12_offBy.1 ∈ am_tg := am_t10 218 rfl rfl
theorem se_X12_offBy : Cond.selects mX12_offBy.1.cls mX12_offBy.1 mX12_offBy.1 ∈ am_tg := am_tg_in (List.mem_append_left _ (by decide +kernel)) (by decide +kernel)
def mX12_beatOf : am_M := (yX12_beatOf, cX12_beatOf, 8, some .int, [])
theorem tmX12_beatOf : am_all mX12_beatOf.2.1 ttX12_beatOf = true := tkX12_beatOf
theorem hw_X12_beatOf : Cond.code yX12_beatOf cX12_beatOf 8 (some .int) ∈ am_tg := am_t10 215 rfl rfl
theorem ok_X12_beatOf : am_okM mX12_beatOf 1 := ⟨hw_X12_beatOf, am_t1 14 rfl rfl, by decide +kernel, by decide +kernel, by decide⟩
theorem in_X12_beatOf : Cond.instanceMethod mX12_beatOf.1 ∈ am_tg := am_t10 214 rfl rfl
theorem se_X12_beatOf : Cond.selects mX12_beatOf.1.cls mX12_beatOf.1 mX12_beatOf.1 ∈ am_tg := am_tg_in (List.mem_append_left _ (by decide +kernel)) (by decide +kernel)
def mX12_beat : am_M := (yX12_beat, cX12_beat, 5, some .int, [])
theorem tmX12_beat_0 : am_all mX12_beat.2.1 ttX12_beat_0 = true := tkX12_beat_0
theorem tmX12_beat_1 : am_all mX12_beat.2.1 ttX12_beat_1 = true := tkX12_beat_1
theorem hw_X12_beat : Cond.code yX12_beat cX12_beat 5 (some .int) ∈ am_tg := am_t10 211 rfl rfl
theorem ok_X12_beat : am_okM mX12_beat 2 := ⟨hw_X12_beat, am_t1 14 rfl rfl, by decide +kernel, by decide +kernel, by decide⟩
theorem in_X12_beat : Cond.instanceMethod mX12_beat.1 ∈ am_tg := am_t10 209 rfl rfl
theorem se_X12_beat : Cond.selects mX12_beat.1.cls mX12_beat.1 mX12_beat.1 ∈ am_tg := am_t10 210 rfl rfl
def mX12_numberOf : am_M := (yX12_numberOf, cX12_numberOf, 3, some .int, [])
theorem tmX12_numberOf : am_all mX12_numberOf.2.1 ttX12_numberOf = true := tkX12_numberOf
theorem hw_X12_numberOf : Cond.code yX12_numberOf cX12_numberOf 3 (some .int) ∈ am_tg := am_t10 226 rfl rfl
theorem ok_X12_numberOf : am_okM mX12_numberOf 3 := ⟨hw_X12_numberOf, am_t1 14 rfl rfl, by decide +kernel, by decide +kernel, by decide⟩
theorem st_X12_numberOf : Cond.static mX12_numberOf.1 ∈ am_tg := am_t10 225 rfl rfl
def mX12_rises : am_M := (yX12_rises, cX12_rises, 4, some .boolean, [])
theorem tmX12_rises : am_all mX12_rises.2.1 ttX12_rises = true := tkX12_rises
theorem hw_X12_rises : Cond.code yX12_rises cX12_rises 4 (some .boolean) ∈ am_tg := am_t10 230 rfl rfl
theorem ok_X12_rises : am_okM mX12_rises 3 := ⟨hw_X12_rises, am_t1 14 rfl rfl, by decide +kernel, by decide +kernel, by decide⟩
theorem in_X12_rises : Cond.instanceMethod mX12_rises.1 ∈ am_tg := am_t10 229 rfl rfl
theorem se_X12_rises : Cond.selects mX12_rises.1.cls mX12_rises.1 mX12_rises.1 ∈ am_tg := am_tg_in (List.mem_append_left _ (by decide +kernel)) (by decide +kernel)
def mX12_endsMap : am_M := (yX12_endsMap, cX12_endsMap, 5, some .int, [])
theorem tmX12_endsMap_0 : am_all mX12_endsMap.2.1 ttX12_endsMap_0 = true := tkX12_endsMap_0
theorem tmX12_endsMap_1 : am_all mX12_endsMap.2.1 ttX12_endsMap_1 = true := tkX12_endsMap_1
theorem hw_X12_endsMap : Cond.code yX12_endsMap cX12_endsMap 5 (some .int) ∈ am_tg := am_t10 234 rfl rfl
theorem ok_X12_endsMap : am_okM mX12_endsMap 2 := ⟨hw_X12_endsMap, am_t1 14 rfl rfl, by decide +kernel, by decide +kernel, by decide⟩
theorem in_X12_endsMap : Cond.instanceMethod mX12_endsMap.1 ∈ am_tg := am_t10 233 rfl rfl
theorem se_X12_endsMap : Cond.selects mX12_endsMap.1.cls mX12_endsMap.1 mX12_endsMap.1 ∈ am_tg := am_tg_in (List.mem_append_left _ (by decide +kernel)) (by decide +kernel)
def mX12_onto : am_M := (yX12_onto, cX12_onto, 11, some .int, [])
theorem tmX12_onto_0 : am_all mX12_onto.2.1 ttX12_onto_0 = true := tkX12_onto_0
theorem tmX12_onto_1 : am_all mX12_onto.2.1 ttX12_onto_1 = true := tkX12_onto_1
theorem tmX12_onto_2 : am_all mX12_onto.2.1 ttX12_onto_2 = true := tkX12_onto_2
theorem hw_X12_onto : Cond.code yX12_onto cX12_onto 11 (some .int) ∈ am_tg := am_t10 223 rfl rfl
theorem ok_X12_onto : am_okM mX12_onto 2 := ⟨hw_X12_onto, am_t1 14 rfl rfl, by decide +kernel, by decide +kernel, by decide⟩
theorem in_X12_onto : Cond.instanceMethod mX12_onto.1 ∈ am_tg := am_t10 221 rfl rfl
theorem se_X12_onto : Cond.selects mX12_onto.1.cls mX12_onto.1 mX12_onto.1 ∈ am_tg := am_t10 222 rfl rfl
def mX12_loop : am_M := (yX12_loop, cX12_loop, 11, some .int, [])
theorem tmX12_loop_0 : am_all mX12_loop.2.1 ttX12_loop_0 = true := tkX12_loop_0
theorem tmX12_loop_1 : am_all mX12_loop.2.1 ttX12_loop_1 = true := tkX12_loop_1
theorem tmX12_loop_2 : am_all mX12_loop.2.1 ttX12_loop_2 = true := tkX12_loop_2
theorem hw_X12_loop : Cond.code yX12_loop cX12_loop 11 (some .int) ∈ am_tg := am_t10 238 rfl rfl
theorem ok_X12_loop : am_okM mX12_loop 3 := ⟨hw_X12_loop, am_t1 14 rfl rfl, by decide +kernel, by decide +kernel, by decide⟩
theorem in_X12_loop : Cond.instanceMethod mX12_loop.1 ∈ am_tg := am_t10 236 rfl rfl
theorem se_X12_loop : Cond.selects mX12_loop.1.cls mX12_loop.1 mX12_loop.1 ∈ am_tg := am_t10 237 rfl rfl
def mX12_join : am_M := (yX12_join, cX12_join, 8, some .int, [])
theorem tmX12_join_0 : am_all mX12_join.2.1 ttX12_join_0 = true := tkX12_join_0
theorem tmX12_join_1 : am_all mX12_join.2.1 ttX12_join_1 = true := tkX12_join_1
theorem tmX12_join_2 : am_all mX12_join.2.1 ttX12_join_2 = true := tkX12_join_2
theorem tmX12_join_3 : am_all mX12_join.2.1 ttX12_join_3 = true := tkX12_join_3
theorem hw_X12_join : Cond.code yX12_join cX12_join 8 (some .int) ∈ am_tg := am_t11 2 rfl rfl
theorem ok_X12_join : am_okM mX12_join 2 := ⟨hw_X12_join, am_t1 14 rfl rfl, by decide +kernel, by decide +kernel, by decide⟩
theorem in_X12_join : Cond.instanceMethod mX12_join.1 ∈ am_tg := am_t11 0 rfl rfl
theorem se_X12_join : Cond.selects mX12_join.1.cls mX12_join.1 mX12_join.1 ∈ am_tg := am_t11 1 rfl rfl
def mX12_soundAt : am_M := (yX12_soundAt, cX12_soundAt, 3, some .int, [])
theorem tmX12_soundAt : am_all mX12_soundAt.2.1 ttX12_soundAt = true := tkX12_soundAt
theorem hw_X12_soundAt : Cond.code yX12_soundAt cX12_soundAt 3 (some .int) ∈ am_tg := am_t11 10 rfl rfl
theorem ok_X12_soundAt : am_okM mX12_soundAt 2 := ⟨hw_X12_soundAt, am_t1 14 rfl rfl, by decide +kernel, by decide +kernel, by decide⟩
theorem in_X12_soundAt : Cond.instanceMethod mX12_soundAt.1 ∈ am_tg := am_t11 9 rfl rfl
theorem se_X12_soundAt : Cond.selects mX12_soundAt.1.cls mX12_soundAt.1 mX12_soundAt.1 ∈ am_tg := am_tg_in (List.mem_append_left _ (by decide +kernel)) (by decide +kernel)
def mX12_shift : am_M := (yX12_shift, cX12_shift, 8, some .int, [])
theorem tmX12_shift_0 : am_all mX12_shift.2.1 ttX12_shift_0 = true := tkX12_shift_0
theorem tmX12_shift_1 : am_all mX12_shift.2.1 ttX12_shift_1 = true := tkX12_shift_1
theorem tmX12_shift_2 : am_all mX12_shift.2.1 ttX12_shift_2 = true := tkX12_shift_2
theorem hw_X12_shift : Cond.code yX12_shift cX12_shift 8 (some .int) ∈ am_tg := am_t11 6 rfl rfl
theorem ok_X12_shift : am_okM mX12_shift 3 := ⟨hw_X12_shift, am_t1 14 rfl rfl, by decide +kernel, by decide +kernel, by decide⟩
theorem in_X12_shift : Cond.instanceMethod mX12_shift.1 ∈ am_tg := am_t11 4 rfl rfl
theorem se_X12_shift : Cond.selects mX12_shift.1.cls mX12_shift.1 mX12_shift.1 ∈ am_tg := am_t11 5 rfl rfl
def mX12_colour : am_M := (yX12_colour, cX12_colour, 5, some .int, [])
theorem tmX12_colour_0 : am_all mX12_colour.2.1 ttX12_colour_0 = true := tkX12_colour_0
theorem tmX12_colour_1 : am_all mX12_colour.2.1 ttX12_colour_1 = true := tkX12_colour_1
theorem hw_X12_colour : Cond.code yX12_colour cX12_colour 5 (some .int) ∈ am_tg := am_t11 14 rfl rfl
theorem ok_X12_colour : am_okM mX12_colour 2 := ⟨hw_X12_colour, am_t1 14 rfl rfl, by decide +kernel, by decide +kernel, by decide⟩
theorem in_X12_colour : Cond.instanceMethod mX12_colour.1 ∈ am_tg := am_t11 12 rfl rfl
theorem se_X12_colour : Cond.selects mX12_colour.1.cls mX12_colour.1 mX12_colour.1 ∈ am_tg := am_t11 13 rfl rfl
def mX12_findStrengths : am_M := (yX12_findStrengths, cX12_findStrengths, 5, none, [])
theorem tmX12_findStrengths : am_all mX12_findStrengths.2.1 ttX12_findStrengths = true := tkX12_findStrengths
theorem hw_X12_findStrengths : Cond.code yX12_findStrengths cX12_findStrengths 5 (none) ∈ am_tg := am_t11 22 rfl rfl
theorem ok_X12_findStrengths : am_okM mX12_findStrengths 3 := ⟨hw_X12_findStrengths, am_t1 14 rfl rfl, by decide +kernel, by decide +kernel, by decide⟩
theorem in_X12_findStrengths : Cond.instanceMethod mX12_findStrengths.1 ∈ am_tg := am_t11 21 rfl rfl
theorem se_X12_findStrengths : Cond.selects mX12_findStrengths.1.cls mX12_findStrengths.1 mX12_findStrengths.1 ∈ am_tg := am_tg_in (List.mem_append_left _ (by decide +kernel)) (by decide +kernel)
def mX12_isPeak : am_M := (yX12_isPeak, cX12_isPeak, 2, some .boolean, [])
theorem tmX12_isPeak : am_all mX12_isPeak.2.1 ttX12_isPeak = true := tkX12_isPeak
theorem hw_X12_isPeak : Cond.code yX12_isPeak cX12_isPeak 2 (some .boolean) ∈ am_tg := am_t11 26 rfl rfl
theorem ok_X12_isPeak : am_okM mX12_isPeak 1 := ⟨hw_X12_isPeak, am_t1 14 rfl rfl, by decide +kernel, by decide +kernel, by decide⟩
theorem in_X12_isPeak : Cond.instanceMethod mX12_isPeak.1 ∈ am_tg := am_t11 25 rfl rfl
theorem se_X12_isPeak : Cond.selects mX12_isPeak.1.cls mX12_isPeak.1 mX12_isPeak.1 ∈ am_tg := am_tg_in (List.mem_append_left _ (by decide +kernel)) (by decide +kernel)
def mX12_peak : am_M := (yX12_peak, cX12_peak, 8, some .int, [])
theorem tmX12_peak_0 : am_all mX12_peak.2.1 ttX12_peak_0 = true := tkX12_peak_0
theorem tmX12_peak_1 : am_all mX12_peak.2.1 ttX12_peak_1 = true := tkX12_peak_1
theorem hw_X12_peak : Cond.code yX12_peak cX12_peak 8 (some .int) ∈ am_tg := am_t11 18 rfl rfl
theorem ok_X12_peak : am_okM mX12_peak 4 := ⟨hw_X12_peak, am_t1 14 rfl rfl, by decide +kernel, by decide +kernel, by decide⟩
theorem in_X12_peak : Cond.instanceMethod mX12_peak.1 ∈ am_tg := am_t11 16 rfl rfl
theorem se_X12_peak : Cond.selects mX12_peak.1.cls mX12_peak.1 mX12_peak.1 ∈ am_tg := am_t11 17 rfl rfl
def mX12_lock : am_M := (yX12_lock, cX12_lock, 7, some .int, [])
theorem tmX12_lock : am_all mX12_lock.2.1 ttX12_lock = true := tkX12_lock
theorem hw_X12_lock : Cond.code yX12_lock cX12_lock 7 (some .int) ∈ am_tg := am_t11 30 rfl rfl
theorem ok_X12_lock : am_okM mX12_lock 4 := ⟨hw_X12_lock, am_t1 14 rfl rfl, by decide +kernel, by decide +kernel, by decide⟩
theorem in_X12_lock : Cond.instanceMethod mX12_lock.1 ∈ am_tg := am_t11 28 rfl rfl
theorem se_X12_lock : Cond.selects mX12_lock.1.cls mX12_lock.1 mX12_lock.1 ∈ am_tg := am_t11 29 rfl rfl
def mX12_steady : am_M := (yX12_steady, cX12_steady, 9, some .int, [])
theorem tmX12_steady_0 : am_all mX12_steady.2.1 ttX12_steady_0 = true := tkX12_steady_0
theorem tmX12_steady_1 : am_all mX12_steady.2.1 ttX12_steady_1 = true := tkX12_steady_1
theorem tmX12_steady_2 : am_all mX12_steady.2.1 ttX12_steady_2 = true := tkX12_steady_2
theorem hw_X12_steady : Cond.code yX12_steady cX12_steady 9 (some .int) ∈ am_tg := am_t11 34 rfl rfl
theorem ok_X12_steady : am_okM mX12_steady 1 := ⟨hw_X12_steady, am_t1 14 rfl rfl, by decide +kernel, by decide +kernel, by decide⟩
theorem in_X12_steady : Cond.instanceMethod mX12_steady.1 ∈ am_tg := am_t11 32 rfl rfl
theorem se_X12_steady : Cond.selects mX12_steady.1.cls mX12_steady.1 mX12_steady.1 ∈ am_tg := am_t11 33 rfl rfl
def mX12_film : am_M := (yX12_film, cX12_film, 4, some .int, [])
theorem tmX12_film : am_all mX12_film.2.1 ttX12_film = true := tkX12_film
theorem hw_X12_film : Cond.code yX12_film cX12_film 4 (some .int) ∈ am_tg := am_t11 38 rfl rfl
theorem ok_X12_film : am_okM mX12_film 3 := ⟨hw_X12_film, am_t1 14 rfl rfl, by decide +kernel, by decide +kernel, by decide⟩
theorem in_X12_film : Cond.instanceMethod mX12_film.1 ∈ am_tg := am_t11 36 rfl rfl
theorem se_X12_film : Cond.selects mX12_film.1.cls mX12_film.1 mX12_film.1 ∈ am_tg := am_t11 37 rfl rfl
def mX12_fails : am_M := (yX12_fails, cX12_fails, 7, some .int, [])
theorem tmX12_fails : am_all mX12_fails.2.1 ttX12_fails = true := tkX12_fails
theorem hw_X12_fails : Cond.code yX12_fails cX12_fails 7 (some .int) ∈ am_tg := am_t11 48 rfl rfl
theorem ok_X12_fails : am_okM mX12_fails 5 := ⟨hw_X12_fails, am_t1 14 rfl rfl, by decide +kernel, by decide +kernel, by decide⟩
theorem st_X12_fails : Cond.static mX12_fails.1 ∈ am_tg := am_t11 47 rfl rfl
def mX12_isLive : am_M := (yX12_isLive, cX12_isLive, 4, some .boolean, [])
theorem tmX12_isLive : am_all mX12_isLive.2.1 ttX12_isLive = true := tkX12_isLive
theorem hw_X12_isLive : Cond.code yX12_isLive cX12_isLive 4 (some .boolean) ∈ am_tg := am_t11 45 rfl rfl
theorem ok_X12_isLive : am_okM mX12_isLive 4 := ⟨hw_X12_isLive, am_t1 14 rfl rfl, by decide +kernel, by decide +kernel, by decide⟩
theorem st_X12_isLive : Cond.static mX12_isLive.1 ∈ am_tg := am_t11 44 rfl rfl
def mX12_live : am_M := (yX12_live, cX12_live, 6, some .int, [])
theorem tmX12_live : am_all mX12_live.2.1 ttX12_live = true := tkX12_live
theorem hw_X12_live : Cond.code yX12_live cX12_live 6 (some .int) ∈ am_tg := am_t11 42 rfl rfl
theorem ok_X12_live : am_okM mX12_live 5 := ⟨hw_X12_live, am_t1 14 rfl rfl, by decide +kernel, by decide +kernel, by decide⟩
theorem in_X12_live : Cond.instanceMethod mX12_live.1 ∈ am_tg := am_t11 40 rfl rfl
theorem se_X12_live : Cond.selects mX12_live.1.cls mX12_live.1 mX12_live.1 ∈ am_tg := am_t11 41 rfl rfl
def mX12_lag : am_M := (yX12_lag, cX12_lag, 6, some .int, [])
theorem tmX12_lag : am_all mX12_lag.2.1 ttX12_lag = true := tkX12_lag
theorem hw_X12_lag : Cond.code yX12_lag cX12_lag 6 (some .int) ∈ am_tg := am_t11 52 rfl rfl
theorem ok_X12_lag : am_okM mX12_lag 4 := ⟨hw_X12_lag, am_t1 14 rfl rfl, by decide +kernel, by decide +kernel, by decide⟩
theorem in_X12_lag : Cond.instanceMethod mX12_lag.1 ∈ am_tg := am_t11 50 rfl rfl
theorem se_X12_lag : Cond.selects mX12_lag.1.cls mX12_lag.1 mX12_lag.1 ∈ am_tg := am_t11 51 rfl rfl
def mX12_lags : am_M := (yX12_lags, cX12_lags, 9, some .int, [])
theorem tmX12_lags : am_all mX12_lags.2.1 ttX12_lags = true := tkX12_lags
theorem hw_X12_lags : Cond.code yX12_lags cX12_lags 9 (some .int) ∈ am_tg := am_t11 56 rfl rfl
theorem ok_X12_lags : am_okM mX12_lags 5 := ⟨hw_X12_lags, am_t1 14 rfl rfl, by decide +kernel, by decide +kernel, by decide⟩
theorem in_X12_lags : Cond.instanceMethod mX12_lags.1 ∈ am_tg := am_t11 54 rfl rfl
theorem se_X12_lags : Cond.selects mX12_lags.1.cls mX12_lags.1 mX12_lags.1 ∈ am_tg := am_t11 55 rfl rfl
def mX12_lost : am_M := (yX12_lost, cX12_lost, 6, some .int, [])
theorem tmX12_lost_0 : am_all mX12_lost.2.1 ttX12_lost_0 = true := tkX12_lost_0
theorem tmX12_lost_1 : am_all mX12_lost.2.1 ttX12_lost_1 = true := tkX12_lost_1
theorem tmX12_lost_2 : am_all mX12_lost.2.1 ttX12_lost_2 = true := tkX12_lost_2
theorem hw_X12_lost : Cond.code yX12_lost cX12_lost 6 (some .int) ∈ am_tg := am_t11 60 rfl rfl
theorem ok_X12_lost : am_okM mX12_lost 3 := ⟨hw_X12_lost, am_t1 14 rfl rfl, by decide +kernel, by decide +kernel, by decide⟩
theorem in_X12_lost : Cond.instanceMethod mX12_lost.1 ∈ am_tg := am_t11 58 rfl rfl
theorem se_X12_lost : Cond.selects mX12_lost.1.cls mX12_lost.1 mX12_lost.1 ∈ am_tg := am_t11 59 rfl rfl
def mX12_moves : am_M := (yX12_moves, cX12_moves, 4, some .int, [])
theorem tmX12_moves : am_all mX12_moves.2.1 ttX12_moves = true := tkX12_moves
theorem hw_X12_moves : Cond.code yX12_moves cX12_moves 4 (some .int) ∈ am_tg := am_t11 72 rfl rfl
theorem ok_X12_moves : am_okM mX12_moves 3 := ⟨hw_X12_moves, am_t1 14 rfl rfl, by decide +kernel, by decide +kernel, by decide⟩
theorem in_X12_moves : Cond.instanceMethod mX12_moves.1 ∈ am_tg := am_t11 71 rfl rfl
theorem se_X12_moves : Cond.selects mX12_moves.1.cls mX12_moves.1 mX12_moves.1 ∈ am_tg := am_tg_in (List.mem_append_left _ (by decide +kernel)) (by decide +kernel)
def mX12_movesRow : am_M := (yX12_movesRow, cX12_movesRow, 5, none, [])
theorem tmX12_movesRow : am_all mX12_movesRow.2.1 ttX12_movesRow = true := tkX12_movesRow
theorem hw_X12_movesRow : Cond.code yX12_movesRow cX12_movesRow 5 (none) ∈ am_tg := am_t11 76 rfl rfl
theorem ok_X12_movesRow : am_okM mX12_movesRow 3 := ⟨hw_X12_movesRow, am_t1 14 rfl rfl, by decide +kernel, by decide +kernel, by decide⟩
theorem in_X12_movesRow : Cond.instanceMethod mX12_movesRow.1 ∈ am_tg := am_t11 75 rfl rfl
theorem se_X12_movesRow : Cond.selects mX12_movesRow.1.cls mX12_movesRow.1 mX12_movesRow.1 ∈ am_tg := am_tg_in (List.mem_append_left _ (by decide +kernel)) (by decide +kernel)
def mX12_movesAll : am_M := (yX12_movesAll, cX12_movesAll, 4, none, [])
theorem tmX12_movesAll_0 : am_all mX12_movesAll.2.1 ttX12_movesAll_0 = true := tkX12_movesAll_0
theorem tmX12_movesAll_1 : am_all mX12_movesAll.2.1 ttX12_movesAll_1 = true := tkX12_movesAll_1
theorem tmX12_movesAll_2 : am_all mX12_movesAll.2.1 ttX12_movesAll_2 = true := tkX12_movesAll_2
theorem hw_X12_movesAll : Cond.code yX12_movesAll cX12_movesAll 4 (none) ∈ am_tg := am_t11 68 rfl rfl
theorem ok_X12_movesAll : am_okM mX12_movesAll 2 := ⟨hw_X12_movesAll, am_t1 14 rfl rfl, by decide +kernel, by decide +kernel, by decide⟩
theorem in_X12_movesAll : Cond.instanceMethod mX12_movesAll.1 ∈ am_tg := am_t11 67 rfl rfl
theorem se_X12_movesAll : Cond.selects mX12_movesAll.1.cls mX12_movesAll.1 mX12_movesAll.1 ∈ am_tg := am_tg_in (List.mem_append_left _ (by decide +kernel)) (by decide +kernel)
def mX12_image : am_M := (yX12_image, cX12_image, 1, some .int, [])
theorem tmX12_image : am_all mX12_image.2.1 ttX12_image = true := tkX12_image
theorem hw_X12_image : Cond.code yX12_image cX12_image 1 (some .int) ∈ am_tg := am_t11 64 rfl rfl
theorem ok_X12_image : am_okM mX12_image 0 := ⟨hw_X12_image, am_t1 14 rfl rfl, by decide +kernel, by decide +kernel, by decide⟩
theorem in_X12_image : Cond.instanceMethod mX12_image.1 ∈ am_tg := am_t11 62 rfl rfl
theorem se_X12_image : Cond.selects mX12_image.1.cls mX12_image.1 mX12_image.1 ∈ am_tg := am_t11 63 rfl rfl
def mX12_restore : am_M := (yX12_restore, cX12_restore, 1, some .int, [])
theorem tmX12_restore : am_all mX12_restore.2.1 ttX12_restore = true := tkX12_restore
theorem hw_X12_restore : Cond.code yX12_restore cX12_restore 1 (some .int) ∈ am_tg := am_t11 80 rfl rfl
theorem ok_X12_restore : am_okM mX12_restore 0 := ⟨hw_X12_restore, am_t1 14 rfl rfl, by decide +kernel, by decide +kernel, by decide⟩
theorem in_X12_restore : Cond.instanceMethod mX12_restore.1 ∈ am_tg := am_t11 78 rfl rfl
theorem se_X12_restore : Cond.selects mX12_restore.1.cls mX12_restore.1 mX12_restore.1 ∈ am_tg := am_t11 79 rfl rfl
def mX12_count : am_M := (yX12_count, cX12_count, 2, some .int, [])
theorem tmX12_count : am_all mX12_count.2.1 ttX12_count = true := tkX12_count
theorem hw_X12_count : Cond.code yX12_count cX12_count 2 (some .int) ∈ am_tg := am_t11 84 rfl rfl
theorem ok_X12_count : am_okM mX12_count 1 := ⟨hw_X12_count, am_t1 14 rfl rfl, by decide +kernel, by decide +kernel, by decide⟩
theorem in_X12_count : Cond.instanceMethod mX12_count.1 ∈ am_tg := am_t11 82 rfl rfl
theorem se_X12_count : Cond.selects mX12_count.1.cls mX12_count.1 mX12_count.1 ∈ am_tg := am_t11 83 rfl rfl
def mX0_init : am_M := (yX0_init, cX0_init, 1, none, [])
theorem tmX0_init : am_all mX0_init.2.1 ttX0_init = true := tkX0_init
theorem hw_X0_init : Cond.code yX0_init cX0_init 1 (none) ∈ am_tg := am_t2 92 rfl rfl
theorem ok_X0_init : am_okM mX0_init 0 := ⟨hw_X0_init, am_t1 11 rfl rfl, by decide +kernel, by decide +kernel, by decide⟩
theorem in_X0_init : Cond.instanceMethod mX0_init.1 ∈ am_tg := am_t2 91 rfl rfl
def mX1_init : am_M := (yX1_init, cX1_init, 2, none, [])
theorem tmX1_init_0 : am_all mX1_init.2.1 ttX1_init_0 = true := tkX1_init_0
theorem tmX1_init_1 : am_all mX1_init.2.1 ttX1_init_1 = true := tkX1_init_1
theorem hw_X1_init : Cond.code yX1_init cX1_init 2 (none) ∈ am_tg := am_t1 46 rfl rfl
theorem ok_X1_init : am_okM mX1_init 0 := ⟨hw_X1_init, am_t1 2 rfl rfl, by decide +kernel, by decide +kernel, by decide⟩
theorem in_X1_init : Cond.instanceMethod mX1_init.1 ∈ am_tg := am_t1 45 rfl rfl
def mX2_init : am_M := (yX2_init, cX2_init, 1, none, [])
theorem tmX2_init : am_all mX2_init.2.1 ttX2_init = true := tkX2_init
theorem hw_X2_init : Cond.code yX2_init cX2_init 1 (none) ∈ am_tg := am_t2 122 rfl rfl
theorem ok_X2_init : am_okM mX2_init 0 := ⟨hw_X2_init, am_t1 12 rfl rfl, by decide +kernel, by decide +kernel, by decide⟩
theorem in_X2_init : Cond.instanceMethod mX2_init.1 ∈ am_tg := am_t2 121 rfl rfl
def mX3_init : am_M := (yX3_init, cX3_init, 1, none, [])
theorem tmX3_init : am_all mX3_init.2.1 ttX3_init = true := tkX3_init
theorem hw_X3_init : Cond.code yX3_init cX3_init 1 (none) ∈ am_tg := am_t2 49 rfl rfl
theorem ok_X3_init : am_okM mX3_init 0 := ⟨hw_X3_init, am_t1 10 rfl rfl, by decide +kernel, by decide +kernel, by decide⟩
theorem in_X3_init : Cond.instanceMethod mX3_init.1 ∈ am_tg := am_t2 48 rfl rfl
def mX4_init : am_M := (yX4_init, cX4_init, 1, none, [])
theorem tmX4_init : am_all mX4_init.2.1 ttX4_init = true := tkX4_init
theorem hw_X4_init : Cond.code yX4_init cX4_init 1 (none) ∈ am_tg := am_t1 216 rfl rfl
theorem ok_X4_init : am_okM mX4_init 0 := ⟨hw_X4_init, am_t1 8 rfl rfl, by decide +kernel, by decide +kernel, by decide⟩
theorem in_X4_init : Cond.instanceMethod mX4_init.1 ∈ am_tg := am_t1 215 rfl rfl
def mX5_init : am_M := (yX5_init, cX5_init, 1, none, [])
theorem tmX5_init : am_all mX5_init.2.1 ttX5_init = true := tkX5_init
theorem hw_X5_init : Cond.code yX5_init cX5_init 1 (none) ∈ am_tg := am_t1 57 rfl rfl
theorem ok_X5_init : am_okM mX5_init 0 := ⟨hw_X5_init, am_t1 3 rfl rfl, by decide +kernel, by decide +kernel, by decide⟩
theorem in_X5_init : Cond.instanceMethod mX5_init.1 ∈ am_tg := am_t1 56 rfl rfl
def mX6_init : am_M := (yX6_init, cX6_init, 1, none, [])
theorem tmX6_init : am_all mX6_init.2.1 ttX6_init = true := tkX6_init
theorem hw_X6_init : Cond.code yX6_init cX6_init 1 (none) ∈ am_tg := am_t1 80 rfl rfl
theorem ok_X6_init : am_okM mX6_init 0 := ⟨hw_X6_init, am_t1 4 rfl rfl, by decide +kernel, by decide +kernel, by decide⟩
theorem in_X6_init : Cond.instanceMethod mX6_init.1 ∈ am_tg := am_t1 79 rfl rfl
def mX7_init : am_M := (yX7_init, cX7_init, 2, none, [])
theorem tmX7_init : am_all mX7_init.2.1 ttX7_init = true := tkX7_init
theorem hw_X7_init : Cond.code yX7_init cX7_init 2 (none) ∈ am_tg := am_t1 106 rfl rfl
theorem ok_X7_init : am_okM mX7_init 1 := ⟨hw_X7_init, am_t1 5 rfl rfl, by decide +kernel, by decide +kernel, by decide⟩
theorem in_X7_init : Cond.instanceMethod mX7_init.1 ∈ am_tg := am_t1 105 rfl rfl
def mX8_init : am_M := (yX8_init, cX8_init, 1, none, [])
theorem tmX8_init : am_all mX8_init.2.1 ttX8_init = true := tkX8_init
theorem hw_X8_init : Cond.code yX8_init cX8_init 1 (none) ∈ am_tg := am_t2 15 rfl rfl
theorem ok_X8_init : am_okM mX8_init 0 := ⟨hw_X8_init, am_t1 9 rfl rfl, by decide +kernel, by decide +kernel, by decide⟩
theorem in_X8_init : Cond.instanceMethod mX8_init.1 ∈ am_tg := am_t2 14 rfl rfl
def mX9_init : am_M := (yX9_init, cX9_init, 1, none, [])
theorem tmX9_init : am_all mX9_init.2.1 ttX9_init = true := tkX9_init
theorem hw_X9_init : Cond.code yX9_init cX9_init 1 (none) ∈ am_tg := am_t1 126 rfl rfl
theorem ok_X9_init : am_okM mX9_init 0 := ⟨hw_X9_init, am_t1 7 rfl rfl, by decide +kernel, by decide +kernel, by decide⟩
theorem in_X9_init : Cond.instanceMethod mX9_init.1 ∈ am_tg := am_t1 125 rfl rfl
def mX10_init : am_M := (yX10_init, cX10_init, 1, none, [])
theorem tmX10_init : am_all mX10_init.2.1 ttX10_init = true := tkX10_init
theorem hw_X10_init : Cond.code yX10_init cX10_init 1 (none) ∈ am_tg := am_t2 136 rfl rfl
theorem ok_X10_init : am_okM mX10_init 0 := ⟨hw_X10_init, am_t1 13 rfl rfl, by decide +kernel, by decide +kernel, by decide⟩
theorem in_X10_init : Cond.instanceMethod mX10_init.1 ∈ am_tg := am_t2 135 rfl rfl
def mX11_init : am_M := (yX11_init, cX11_init, 2, none, [])
theorem tmX11_init_0 : am_all mX11_init.2.1 ttX11_init_0 = true := tkX11_init_0
theorem tmX11_init_1 : am_all mX11_init.2.1 ttX11_init_1 = true := tkX11_init_1
theorem hw_X11_init : Cond.code yX11_init cX11_init 2 (none) ∈ am_tg := am_t1 38 rfl rfl
theorem ok_X11_init : am_okM mX11_init 0 := ⟨hw_X11_init, am_t1 1 rfl rfl, by decide +kernel, by decide +kernel, by decide⟩
theorem in_X11_init : Cond.instanceMethod mX11_init.1 ∈ am_tg := am_t1 37 rfl rfl
def mX12_init : am_M := (yX12_init, cX12_init, 1, none, [])
theorem tmX12_init_0 : am_all mX12_init.2.1 ttX12_init_0 = true := tkX12_init_0
theorem tmX12_init_1 : am_all mX12_init.2.1 ttX12_init_1 = true := tkX12_init_1
theorem tmX12_init_2 : am_all mX12_init.2.1 ttX12_init_2 = true := tkX12_init_2
theorem hw_X12_init : Cond.code yX12_init cX12_init 1 (none) ∈ am_tg := am_t8 123 rfl rfl
theorem ok_X12_init : am_okM mX12_init 0 := ⟨hw_X12_init, am_t1 14 rfl rfl, by decide +kernel, by decide +kernel, by decide⟩
theorem in_X12_init : Cond.instanceMethod mX12_init.1 ∈ am_tg := am_t8 122 rfl rfl
def mL_sound : am_M := (yL_sound, cL_sound, 4, some .int, [((0), (9), (12), (13))])
theorem hw_L_sound : Cond.codeWith yL_sound cL_sound 4 (some .int) [((0), (9), (12), (13))] ∈ am_tg := am_t4 182 rfl rfl
theorem ok_L_sound : am_okM mL_sound 3 := ⟨hw_L_sound, am_t1 0 rfl rfl, by decide +kernel, by decide +kernel, by decide⟩
theorem st_L_sound : Cond.static mL_sound.1 ∈ am_tg := am_t4 181 rfl rfl
def mL_map : am_M := (yL_map, cL_map, 4, some .int, [((0), (9), (12), (13))])
theorem hw_L_map : Cond.codeWith yL_map cL_map 4 (some .int) [((0), (9), (12), (13))] ∈ am_tg := am_t5 94 rfl rfl
theorem ok_L_map : am_okM mL_map 3 := ⟨hw_L_map, am_t1 0 rfl rfl, by decide +kernel, by decide +kernel, by decide⟩
theorem st_L_map : Cond.static mL_map.1 ∈ am_tg := am_t5 93 rfl rfl
def mL_size : am_M := (yL_size, cL_size, 4, some .int, [((0), (9), (12), (21))])
theorem hw_L_size : Cond.codeWith yL_size cL_size 4 (some .int) [((0), (9), (12), (21))] ∈ am_tg := am_t5 138 rfl rfl
theorem ok_L_size : am_okM mL_size 3 := ⟨hw_L_size, am_t1 0 rfl rfl, by decide +kernel, by decide +kernel, by decide⟩
theorem st_L_size : Cond.static mL_size.1 ∈ am_tg := am_t5 137 rfl rfl
def mL_sample : am_M := (yL_sample, cL_sample, 5, some .int, [((0), (10), (13), (21))])
theorem hw_L_sample : Cond.codeWith yL_sample cL_sample 5 (some .int) [((0), (10), (13), (21))] ∈ am_tg := am_t5 165 rfl rfl
theorem ok_L_sample : am_okM mL_sample 4 := ⟨hw_L_sample, am_t1 0 rfl rfl, by decide +kernel, by decide +kernel, by decide⟩
theorem st_L_sample : Cond.static mL_sample.1 ∈ am_tg := am_t5 164 rfl rfl
def mL_told : am_M := (yL_told, cL_told, 5, some .int, [((0), (10), (13), (30)), ((0), (10), (17), (13))])
theorem hw_L_told : Cond.codeWith yL_told cL_told 5 (some .int) [((0), (10), (13), (30)), ((0), (10), (17), (13))] ∈ am_tg := am_t5 172 rfl rfl
theorem ok_L_told : am_okM mL_told 4 := ⟨hw_L_told, am_t1 0 rfl rfl, by decide +kernel, by decide +kernel, by decide⟩
theorem st_L_told : Cond.static mL_told.1 ∈ am_tg := am_t5 171 rfl rfl
def mL_place : am_M := (yL_place, cL_place, 5, some .int, [((0), (10), (13), (30))])
theorem hw_L_place : Cond.codeWith yL_place cL_place 5 (some .int) [((0), (10), (13), (30))] ∈ am_tg := am_t5 201 rfl rfl
theorem ok_L_place : am_okM mL_place 4 := ⟨hw_L_place, am_t1 0 rfl rfl, by decide +kernel, by decide +kernel, by decide⟩
theorem st_L_place : Cond.static mL_place.1 ∈ am_tg := am_t5 200 rfl rfl
def mL_where : am_M := (yL_where, cL_where, 5, some .int, [((0), (10), (13), (30))])
theorem hw_L_where : Cond.codeWith yL_where cL_where 5 (some .int) [((0), (10), (13), (30))] ∈ am_tg := am_t5 213 rfl rfl
theorem ok_L_where : am_okM mL_where 4 := ⟨hw_L_where, am_t1 0 rfl rfl, by decide +kernel, by decide +kernel, by decide⟩
theorem st_L_where : Cond.static mL_where.1 ∈ am_tg := am_t5 212 rfl rfl
def mL_pieces : am_M := (yL_pieces, cL_pieces, 6, some .int, [((0), (12), (15), (13))])
theorem hw_L_pieces : Cond.codeWith yL_pieces cL_pieces 6 (some .int) [((0), (12), (15), (13))] ∈ am_tg := am_t5 226 rfl rfl
theorem ok_L_pieces : am_okM mL_pieces 5 := ⟨hw_L_pieces, am_t1 0 rfl rfl, by decide +kernel, by decide +kernel, by decide⟩
theorem st_L_pieces : Cond.static mL_pieces.1 ∈ am_tg := am_t5 225 rfl rfl
def mL_draw : am_M := (yL_draw, cL_draw, 5, some .int, [((0), (10), (13), (21)), ((0), (10), (17), (30)), ((0), (10), (21), (45))])
theorem hw_L_draw : Cond.codeWith yL_draw cL_draw 5 (some .int) [((0), (10), (13), (21)), ((0), (10), (17), (30)), ((0), (10), (21), (45))] ∈ am_tg := am_t5 238 rfl rfl
theorem ok_L_draw : am_okM mL_draw 4 := ⟨hw_L_draw, am_t1 0 rfl rfl, by decide +kernel, by decide +kernel, by decide⟩
theorem st_L_draw : Cond.static mL_draw.1 ∈ am_tg := am_t5 237 rfl rfl
def mL_sharp : am_M := (yL_sharp, cL_sharp, 5, some .int, [((0), (10), (13), (21)), ((0), (10), (17), (30)), ((0), (10), (21), (45))])
theorem hw_L_sharp : Cond.codeWith yL_sharp cL_sharp 5 (some .int) [((0), (10), (13), (21)), ((0), (10), (17), (30)), ((0), (10), (21), (45))] ∈ am_tg := am_t6 62 rfl rfl
theorem ok_L_sharp : am_okM mL_sharp 4 := ⟨hw_L_sharp, am_t1 0 rfl rfl, by decide +kernel, by decide +kernel, by decide⟩
theorem st_L_sharp : Cond.static mL_sharp.1 ∈ am_tg := am_t6 61 rfl rfl
def mL_seam : am_M := (yL_seam, cL_seam, 5, some .int, [((0), (10), (13), (13))])
theorem hw_L_seam : Cond.codeWith yL_seam cL_seam 5 (some .int) [((0), (10), (13), (13))] ∈ am_tg := am_t6 78 rfl rfl
theorem ok_L_seam : am_okM mL_seam 4 := ⟨hw_L_seam, am_t1 0 rfl rfl, by decide +kernel, by decide +kernel, by decide⟩
theorem st_L_seam : Cond.static mL_seam.1 ∈ am_tg := am_t6 77 rfl rfl
def mL_blowing : am_M := (yL_blowing, cL_blowing, 6, some .int, [((0), (12), (15), (13))])
theorem hw_L_blowing : Cond.codeWith yL_blowing cL_blowing 6 (some .int) [((0), (12), (15), (13))] ∈ am_tg := am_t6 89 rfl rfl
theorem ok_L_blowing : am_okM mL_blowing 5 := ⟨hw_L_blowing, am_t1 0 rfl rfl, by decide +kernel, by decide +kernel, by decide⟩
theorem st_L_blowing : Cond.static mL_blowing.1 ∈ am_tg := am_t6 88 rfl rfl
def mL_blow : am_M := (yL_blow, cL_blow, 5, some .int, [((0), (10), (13), (21))])
theorem hw_L_blow : Cond.codeWith yL_blow cL_blow 5 (some .int) [((0), (10), (13), (21))] ∈ am_tg := am_t6 96 rfl rfl
theorem ok_L_blow : am_okM mL_blow 4 := ⟨hw_L_blow, am_t1 0 rfl rfl, by decide +kernel, by decide +kernel, by decide⟩
theorem st_L_blow : Cond.static mL_blow.1 ∈ am_tg := am_t6 95 rfl rfl
def mL_harm : am_M := (yL_harm, cL_harm, 4, some .int, [((0), (9), (12), (13))])
theorem hw_L_harm : Cond.codeWith yL_harm cL_harm 4 (some .int) [((0), (9), (12), (13))] ∈ am_tg := am_t6 104 rfl rfl
theorem ok_L_harm : am_okM mL_harm 3 := ⟨hw_L_harm, am_t1 0 rfl rfl, by decide +kernel, by decide +kernel, by decide⟩
theorem st_L_harm : Cond.static mL_harm.1 ∈ am_tg := am_t6 103 rfl rfl
def mL_weigh : am_M := (yL_weigh, cL_weigh, 5, some .int, [((0), (10), (13), (13))])
theorem hw_L_weigh : Cond.codeWith yL_weigh cL_weigh 5 (some .int) [((0), (10), (13), (13))] ∈ am_tg := am_t6 144 rfl rfl
theorem ok_L_weigh : am_okM mL_weigh 4 := ⟨hw_L_weigh, am_t1 0 rfl rfl, by decide +kernel, by decide +kernel, by decide⟩
theorem st_L_weigh : Cond.static mL_weigh.1 ∈ am_tg := am_t6 143 rfl rfl
def mL_way : am_M := (yL_way, cL_way, 6, some .int, [((0), (12), (15), (13))])
theorem hw_L_way : Cond.codeWith yL_way cL_way 6 (some .int) [((0), (12), (15), (13))] ∈ am_tg := am_t6 151 rfl rfl
theorem ok_L_way : am_okM mL_way 5 := ⟨hw_L_way, am_t1 0 rfl rfl, by decide +kernel, by decide +kernel, by decide⟩
theorem st_L_way : Cond.static mL_way.1 ∈ am_tg := am_t6 150 rfl rfl
def mL_best : am_M := (yL_best, cL_best, 5, some .int, [((0), (10), (13), (21)), ((0), (10), (17), (30)), ((0), (10), (21), (45))])
theorem hw_L_best : Cond.codeWith yL_best cL_best 5 (some .int) [((0), (10), (13), (21)), ((0), (10), (17), (30)), ((0), (10), (21), (45))] ∈ am_tg := am_t6 158 rfl rfl
theorem ok_L_best : am_okM mL_best 4 := ⟨hw_L_best, am_t1 0 rfl rfl, by decide +kernel, by decide +kernel, by decide⟩
theorem st_L_best : Cond.static mL_best.1 ∈ am_tg := am_t6 157 rfl rfl
def mL_bestOf : am_M := (yL_bestOf, cL_bestOf, 6, some .int, [((0), (12), (15), (21)), ((0), (12), (19), (30)), ((0), (12), (23), (13)), ((0), (12), (27), (45))])
theorem hw_L_bestOf : Cond.codeWith yL_bestOf cL_bestOf 6 (some .int) [((0), (12), (15), (21)), ((0), (12), (19), (30)), ((0), (12), (23), (13)), ((0), (12), (27), (45))] ∈ am_tg := am_t6 169 rfl rfl
theorem ok_L_bestOf : am_okM mL_bestOf 5 := ⟨hw_L_bestOf, am_t1 0 rfl rfl, by decide +kernel, by decide +kernel, by decide⟩
theorem st_L_bestOf : Cond.static mL_bestOf.1 ∈ am_tg := am_t6 168 rfl rfl
def mL_part : am_M := (yL_part, cL_part, 7, some .int, [((0), (14), (17), (13))])
theorem hw_L_part : Cond.codeWith yL_part cL_part 7 (some .int) [((0), (14), (17), (13))] ∈ am_tg := am_t6 177 rfl rfl
theorem ok_L_part : am_okM mL_part 6 := ⟨hw_L_part, am_t1 0 rfl rfl, by decide +kernel, by decide +kernel, by decide⟩
theorem st_L_part : Cond.static mL_part.1 ∈ am_tg := am_t6 176 rfl rfl
def mL_planned : am_M := (yL_planned, cL_planned, 5, some .int, [((0), (10), (13), (13))])
theorem hw_L_planned : Cond.codeWith yL_planned cL_planned 5 (some .int) [((0), (10), (13), (13))] ∈ am_tg := am_t6 188 rfl rfl
theorem ok_L_planned : am_okM mL_planned 4 := ⟨hw_L_planned, am_t1 0 rfl rfl, by decide +kernel, by decide +kernel, by decide⟩
theorem st_L_planned : Cond.static mL_planned.1 ∈ am_tg := am_t6 187 rfl rfl
def mL_planMap : am_M := (yL_planMap, cL_planMap, 4, some .int, [((0), (9), (12), (13))])
theorem hw_L_planMap : Cond.codeWith yL_planMap cL_planMap 4 (some .int) [((0), (9), (12), (13))] ∈ am_tg := am_t6 209 rfl rfl
theorem ok_L_planMap : am_okM mL_planMap 3 := ⟨hw_L_planMap, am_t1 0 rfl rfl, by decide +kernel, by decide +kernel, by decide⟩
theorem st_L_planMap : Cond.static mL_planMap.1 ∈ am_tg := am_t6 208 rfl rfl
def mL_pitch : am_M := (yL_pitch, cL_pitch, 6, some .int, [((0), (12), (15), (21)), ((0), (12), (19), (13))])
theorem hw_L_pitch : Cond.codeWith yL_pitch cL_pitch 6 (some .int) [((0), (12), (15), (21)), ((0), (12), (19), (13))] ∈ am_tg := am_t6 226 rfl rfl
theorem ok_L_pitch : am_okM mL_pitch 5 := ⟨hw_L_pitch, am_t1 0 rfl rfl, by decide +kernel, by decide +kernel, by decide⟩
theorem st_L_pitch : Cond.static mL_pitch.1 ∈ am_tg := am_t6 225 rfl rfl
def mL_turned : am_M := (yL_turned, cL_turned, 8, some .int, [((0), (15), (18), (21)), ((0), (15), (22), (13))])
theorem hw_L_turned : Cond.codeWith yL_turned cL_turned 8 (some .int) [((0), (15), (18), (21)), ((0), (15), (22), (13))] ∈ am_tg := am_t7 2 rfl rfl
theorem ok_L_turned : am_okM mL_turned 7 := ⟨hw_L_turned, am_t1 0 rfl rfl, by decide +kernel, by decide +kernel, by decide⟩
theorem st_L_turned : Cond.static mL_turned.1 ∈ am_tg := am_t7 1 rfl rfl
def mL_sing : am_M := (yL_sing, cL_sing, 7, some .int, [((0), (14), (17), (21)), ((0), (14), (21), (30)), ((0), (14), (25), (13)), ((0), (14), (29), (45))])
theorem hw_L_sing : Cond.codeWith yL_sing cL_sing 7 (some .int) [((0), (14), (17), (21)), ((0), (14), (21), (30)), ((0), (14), (25), (13)), ((0), (14), (29), (45))] ∈ am_tg := am_t7 27 rfl rfl
theorem ok_L_sing : am_okM mL_sing 6 := ⟨hw_L_sing, am_t1 0 rfl rfl, by decide +kernel, by decide +kernel, by decide⟩
theorem st_L_sing : Cond.static mL_sing.1 ∈ am_tg := am_t7 26 rfl rfl
def mL_crossing : am_M := (yL_crossing, cL_crossing, 5, some .int, [((0), (10), (13), (21))])
theorem hw_L_crossing : Cond.codeWith yL_crossing cL_crossing 5 (some .int) [((0), (10), (13), (21))] ∈ am_tg := am_t7 43 rfl rfl
theorem ok_L_crossing : am_okM mL_crossing 4 := ⟨hw_L_crossing, am_t1 0 rfl rfl, by decide +kernel, by decide +kernel, by decide⟩
theorem st_L_crossing : Cond.static mL_crossing.1 ∈ am_tg := am_t7 42 rfl rfl
def mL_period : am_M := (yL_period, cL_period, 4, some .int, [((0), (9), (12), (21))])
theorem hw_L_period : Cond.codeWith yL_period cL_period 4 (some .int) [((0), (9), (12), (21))] ∈ am_tg := am_t7 59 rfl rfl
theorem ok_L_period : am_okM mL_period 3 := ⟨hw_L_period, am_t1 0 rfl rfl, by decide +kernel, by decide +kernel, by decide⟩
theorem st_L_period : Cond.static mL_period.1 ∈ am_tg := am_t7 58 rfl rfl
def mL_hum : am_M := (yL_hum, cL_hum, 4, some .int, [((0), (9), (12), (13))])
theorem hw_L_hum : Cond.codeWith yL_hum cL_hum 4 (some .int) [((0), (9), (12), (13))] ∈ am_tg := am_t7 81 rfl rfl
theorem ok_L_hum : am_okM mL_hum 3 := ⟨hw_L_hum, am_t1 0 rfl rfl, by decide +kernel, by decide +kernel, by decide⟩
theorem st_L_hum : Cond.static mL_hum.1 ∈ am_tg := am_t7 80 rfl rfl
def mL_meant : am_M := (yL_meant, cL_meant, 5, some .int, [((0), (10), (13), (21)), ((0), (10), (17), (13))])
theorem hw_L_meant : Cond.codeWith yL_meant cL_meant 5 (some .int) [((0), (10), (13), (21)), ((0), (10), (17), (13))] ∈ am_tg := am_t7 91 rfl rfl
theorem ok_L_meant : am_okM mL_meant 4 := ⟨hw_L_meant, am_t1 0 rfl rfl, by decide +kernel, by decide +kernel, by decide⟩
theorem st_L_meant : Cond.static mL_meant.1 ∈ am_tg := am_t7 90 rfl rfl
def mL_undo : am_M := (yL_undo, cL_undo, 5, some .int, [((0), (10), (13), (21)), ((0), (10), (17), (13))])
theorem hw_L_undo : Cond.codeWith yL_undo cL_undo 5 (some .int) [((0), (10), (13), (21)), ((0), (10), (17), (13))] ∈ am_tg := am_t7 108 rfl rfl
theorem ok_L_undo : am_okM mL_undo 4 := ⟨hw_L_undo, am_t1 0 rfl rfl, by decide +kernel, by decide +kernel, by decide⟩
theorem st_L_undo : Cond.static mL_undo.1 ∈ am_tg := am_t7 107 rfl rfl
def mL_wobble : am_M := (yL_wobble, cL_wobble, 5, some .int, [((0), (10), (13), (21)), ((0), (10), (17), (13))])
theorem hw_L_wobble : Cond.codeWith yL_wobble cL_wobble 5 (some .int) [((0), (10), (13), (21)), ((0), (10), (17), (13))] ∈ am_tg := am_t7 118 rfl rfl
theorem ok_L_wobble : am_okM mL_wobble 4 := ⟨hw_L_wobble, am_t1 0 rfl rfl, by decide +kernel, by decide +kernel, by decide⟩
theorem st_L_wobble : Cond.static mL_wobble.1 ∈ am_tg := am_t7 117 rfl rfl
def mL_beat : am_M := (yL_beat, cL_beat, 5, some .int, [((0), (10), (13), (21)), ((0), (10), (17), (13))])
theorem hw_L_beat : Cond.codeWith yL_beat cL_beat 5 (some .int) [((0), (10), (13), (21)), ((0), (10), (17), (13))] ∈ am_tg := am_t7 140 rfl rfl
theorem ok_L_beat : am_okM mL_beat 4 := ⟨hw_L_beat, am_t1 0 rfl rfl, by decide +kernel, by decide +kernel, by decide⟩
theorem st_L_beat : Cond.static mL_beat.1 ∈ am_tg := am_t7 139 rfl rfl
def mL_onto : am_M := (yL_onto, cL_onto, 5, some .int, [((0), (10), (13), (21)), ((0), (10), (17), (13))])
theorem hw_L_onto : Cond.codeWith yL_onto cL_onto 5 (some .int) [((0), (10), (13), (21)), ((0), (10), (17), (13))] ∈ am_tg := am_t7 173 rfl rfl
theorem ok_L_onto : am_okM mL_onto 4 := ⟨hw_L_onto, am_t1 0 rfl rfl, by decide +kernel, by decide +kernel, by decide⟩
theorem st_L_onto : Cond.static mL_onto.1 ∈ am_tg := am_t7 172 rfl rfl
def mL_loop : am_M := (yL_loop, cL_loop, 6, some .int, [((0), (12), (15), (21)), ((0), (12), (19), (13))])
theorem hw_L_loop : Cond.codeWith yL_loop cL_loop 6 (some .int) [((0), (12), (15), (21)), ((0), (12), (19), (13))] ∈ am_tg := am_t7 199 rfl rfl
theorem ok_L_loop : am_okM mL_loop 5 := ⟨hw_L_loop, am_t1 0 rfl rfl, by decide +kernel, by decide +kernel, by decide⟩
theorem st_L_loop : Cond.static mL_loop.1 ∈ am_tg := am_t7 198 rfl rfl
def mL_join : am_M := (yL_join, cL_join, 5, some .int, [((0), (10), (13), (21))])
theorem hw_L_join : Cond.codeWith yL_join cL_join 5 (some .int) [((0), (10), (13), (21))] ∈ am_tg := am_t7 211 rfl rfl
theorem ok_L_join : am_okM mL_join 4 := ⟨hw_L_join, am_t1 0 rfl rfl, by decide +kernel, by decide +kernel, by decide⟩
theorem st_L_join : Cond.static mL_join.1 ∈ am_tg := am_t7 210 rfl rfl
def mL_shift : am_M := (yL_shift, cL_shift, 6, some .int, [((0), (12), (15), (21)), ((0), (12), (19), (13)), ((0), (12), (23), (45))])
theorem hw_L_shift : Cond.codeWith yL_shift cL_shift 6 (some .int) [((0), (12), (15), (21)), ((0), (12), (19), (13)), ((0), (12), (23), (45))] ∈ am_tg := am_t7 229 rfl rfl
theorem ok_L_shift : am_okM mL_shift 5 := ⟨hw_L_shift, am_t1 0 rfl rfl, by decide +kernel, by decide +kernel, by decide⟩
theorem st_L_shift : Cond.static mL_shift.1 ∈ am_tg := am_t7 228 rfl rfl
def mL_colour : am_M := (yL_colour, cL_colour, 5, some .int, [((0), (10), (13), (21)), ((0), (10), (17), (13))])
theorem hw_L_colour : Cond.codeWith yL_colour cL_colour 5 (some .int) [((0), (10), (13), (21)), ((0), (10), (17), (13))] ∈ am_tg := am_t8 0 rfl rfl
theorem ok_L_colour : am_okM mL_colour 4 := ⟨hw_L_colour, am_t1 0 rfl rfl, by decide +kernel, by decide +kernel, by decide⟩
theorem st_L_colour : Cond.static mL_colour.1 ∈ am_tg := am_t7 239 rfl rfl
def mL_peak : am_M := (yL_peak, cL_peak, 7, some .int, [((0), (14), (17), (21)), ((0), (14), (21), (13))])
theorem hw_L_peak : Cond.codeWith yL_peak cL_peak 7 (some .int) [((0), (14), (17), (21)), ((0), (14), (21), (13))] ∈ am_tg := am_t8 9 rfl rfl
theorem ok_L_peak : am_okM mL_peak 6 := ⟨hw_L_peak, am_t1 0 rfl rfl, by decide +kernel, by decide +kernel, by decide⟩
theorem st_L_peak : Cond.static mL_peak.1 ∈ am_tg := am_t8 8 rfl rfl
def mL_lock : am_M := (yL_lock, cL_lock, 7, some .int, [((0), (14), (17), (21)), ((0), (14), (21), (13))])
theorem hw_L_lock : Cond.codeWith yL_lock cL_lock 7 (some .int) [((0), (14), (17), (21)), ((0), (14), (21), (13))] ∈ am_tg := am_t8 38 rfl rfl
theorem ok_L_lock : am_okM mL_lock 6 := ⟨hw_L_lock, am_t1 0 rfl rfl, by decide +kernel, by decide +kernel, by decide⟩
theorem st_L_lock : Cond.static mL_lock.1 ∈ am_tg := am_t8 37 rfl rfl
def mL_steady : am_M := (yL_steady, cL_steady, 4, some .int, [((0), (9), (12), (21))])
theorem hw_L_steady : Cond.codeWith yL_steady cL_steady 4 (some .int) [((0), (9), (12), (21))] ∈ am_tg := am_t8 50 rfl rfl
theorem ok_L_steady : am_okM mL_steady 3 := ⟨hw_L_steady, am_t1 0 rfl rfl, by decide +kernel, by decide +kernel, by decide⟩
theorem st_L_steady : Cond.static mL_steady.1 ∈ am_tg := am_t8 49 rfl rfl
def mL_film : am_M := (yL_film, cL_film, 6, some .int, [((0), (12), (15), (21)), ((0), (12), (19), (13))])
theorem hw_L_film : Cond.codeWith yL_film cL_film 6 (some .int) [((0), (12), (15), (21)), ((0), (12), (19), (13))] ∈ am_tg := am_t8 70 rfl rfl
theorem ok_L_film : am_okM mL_film 5 := ⟨hw_L_film, am_t1 0 rfl rfl, by decide +kernel, by decide +kernel, by decide⟩
theorem st_L_film : Cond.static mL_film.1 ∈ am_tg := am_t8 69 rfl rfl
def mL_live : am_M := (yL_live, cL_live, 8, some .int, [((0), (16), (19), (13))])
theorem hw_L_live : Cond.codeWith yL_live cL_live 8 (some .int) [((0), (16), (19), (13))] ∈ am_tg := am_t8 77 rfl rfl
theorem ok_L_live : am_okM mL_live 7 := ⟨hw_L_live, am_t1 0 rfl rfl, by decide +kernel, by decide +kernel, by decide⟩
theorem st_L_live : Cond.static mL_live.1 ∈ am_tg := am_t8 76 rfl rfl
def mL_lag : am_M := (yL_lag, cL_lag, 7, some .int, [((0), (14), (17), (13))])
theorem hw_L_lag : Cond.codeWith yL_lag cL_lag 7 (some .int) [((0), (14), (17), (13))] ∈ am_tg := am_t8 90 rfl rfl
theorem ok_L_lag : am_okM mL_lag 6 := ⟨hw_L_lag, am_t1 0 rfl rfl, by decide +kernel, by decide +kernel, by decide⟩
theorem st_L_lag : Cond.static mL_lag.1 ∈ am_tg := am_t8 89 rfl rfl
def mL_lags : am_M := (yL_lags, cL_lags, 8, some .int, [((0), (16), (19), (13))])
theorem hw_L_lags : Cond.codeWith yL_lags cL_lags 8 (some .int) [((0), (16), (19), (13))] ∈ am_tg := am_t8 103 rfl rfl
theorem ok_L_lags : am_okM mL_lags 7 := ⟨hw_L_lags, am_t1 0 rfl rfl, by decide +kernel, by decide +kernel, by decide⟩
theorem st_L_lags : Cond.static mL_lags.1 ∈ am_tg := am_t8 102 rfl rfl
def mL_lost : am_M := (yL_lost, cL_lost, 6, some .int, [((0), (12), (15), (21)), ((0), (12), (19), (30)), ((0), (12), (23), (45))])
theorem hw_L_lost : Cond.codeWith yL_lost cL_lost 6 (some .int) [((0), (12), (15), (21)), ((0), (12), (19), (30)), ((0), (12), (23), (45))] ∈ am_tg := am_t8 110 rfl rfl
theorem ok_L_lost : am_okM mL_lost 5 := ⟨hw_L_lost, am_t1 0 rfl rfl, by decide +kernel, by decide +kernel, by decide⟩
theorem st_L_lost : Cond.static mL_lost.1 ∈ am_tg := am_t8 109 rfl rfl
theorem lc_X11_474 : Cond.constantLong RX11 474 (1000000000 : Int64) ∈ am_tg := am_t6 138 rfl rfl
theorem lc_X12_143 : Cond.constant RX12 143 (100000 : Int32) ∈ am_tg := am_t9 124 rfl rfl
theorem lc_X12_190 : Cond.constant RX12 190 (1103515245 : Int32) ∈ am_tg := am_t9 139 rfl rfl
theorem lc_X12_324 : Cond.constantLong RX12 324 (1000000000 : Int64) ∈ am_tg := am_t10 85 rfl rfl
theorem lc_X12_326 : Cond.constant RX12 326 (1000000000 : Int32) ∈ am_tg := am_t10 86 rfl rfl
theorem lc_X7_61 : Cond.constant RX7 61 (1103515245 : Int32) ∈ am_tg := am_t5 70 rfl rfl
theorem lc_X8_149 : Cond.constant RX8 149 (100000 : Int32) ∈ am_tg := am_t5 43 rfl rfl
theorem lcl_X11_302 : Cond.classLink RX11 302 "java/lang/IllegalStateException" ∈ am_tg := am_t6 7 rfl rfl
theorem lcl_X11_448 : Cond.classLink RX11 448 "java/lang/IllegalArgumentException" ∈ am_tg := am_t4 191 rfl rfl
theorem lcl_X11_451 : Cond.classLink RX11 451 "java/util/NoSuchElementException" ∈ am_tg := am_t5 148 rfl rfl
theorem lcl_X11_458 : Cond.classLink RX11 458 "java/lang/IndexOutOfBoundsException" ∈ am_tg := am_t5 182 rfl rfl
theorem lf_X0_106 : Cond.fieldLink RX0 106 RX9 (TX9 2).2.1 (TX9 2).2.2.1 ∈ am_tg := am_t1 134 rfl rfl
theorem lf_X0_15 : Cond.fieldLink RX0 15 RX0 (TX0 1).2.1 (TX0 1).2.2.1 ∈ am_tg := am_t2 95 rfl rfl
theorem lf_X0_18 : Cond.fieldLink RX0 18 RX0 (TX0 2).2.1 (TX0 2).2.2.1 ∈ am_tg := am_t2 96 rfl rfl
theorem lf_X0_22 : Cond.fieldLink RX0 22 RX7 (TX7 1).2.1 (TX7 1).2.2.1 ∈ am_tg := am_t1 114 rfl rfl
theorem lf_X0_29 : Cond.fieldLink RX0 29 RX1 (TX1 13).2.1 (TX1 13).2.2.1 ∈ am_tg := am_t1 180 rfl rfl
theorem lf_X0_38 : Cond.fieldLink RX0 38 RX1 (TX1 11).2.1 (TX1 11).2.2.1 ∈ am_tg := am_t1 172 rfl rfl
theorem lf_X0_41 : Cond.fieldLink RX0 41 RX1 (TX1 12).2.1 (TX1 12).2.2.1 ∈ am_tg := am_t1 176 rfl rfl
theorem lf_X0_48 : Cond.fieldLink RX0 48 RX0 (TX0 3).2.1 (TX0 3).2.2.1 ∈ am_tg := am_t2 99 rfl rfl
theorem lf_X0_82 : Cond.fieldLink RX0 82 RX0 (TX0 5).2.1 (TX0 5).2.2.1 ∈ am_tg := am_t2 103 rfl rfl
theorem lf_X0_85 : Cond.fieldLink RX0 85 RX0 (TX0 4).2.1 (TX0 4).2.2.1 ∈ am_tg := am_t2 101 rfl rfl
theorem lf_X0_9 : Cond.fieldLink RX0 9 RX0 (TX0 0).2.1 (TX0 0).2.2.1 ∈ am_tg := am_t2 94 rfl rfl
theorem lf_X10_21 : Cond.fieldLink RX10 21 RX10 (TX10 1).2.1 (TX10 1).2.2.1 ∈ am_tg := am_t2 139 rfl rfl
theorem lf_X10_25 : Cond.fieldLink RX10 25 RX10 (TX10 2).2.1 (TX10 2).2.2.1 ∈ am_tg := am_t2 141 rfl rfl
theorem lf_X10_9 : Cond.fieldLink RX10 9 RX10 (TX10 0).2.1 (TX10 0).2.2.1 ∈ am_tg := am_t2 138 rfl rfl
theorem lf_X11_10 : Cond.fieldLink RX11 10 RX11 (TX11 0).2.1 (TX11 0).2.2.1 ∈ am_tg := am_t2 151 rfl rfl
theorem lf_X11_109 : Cond.fieldLink RX11 109 RX8 (TX8 2).2.1 (TX8 2).2.2.1 ∈ am_tg := am_t2 21 rfl rfl
theorem lf_X11_127 : Cond.fieldLink RX11 127 RX8 (TX8 3).2.1 (TX8 3).2.2.1 ∈ am_tg := am_t2 23 rfl rfl
theorem lf_X11_134 : Cond.fieldLink RX11 134 RX7 (TX7 1).2.1 (TX7 1).2.2.1 ∈ am_tg := am_t1 117 rfl rfl
theorem lf_X11_147 : Cond.fieldLink RX11 147 RX9 (TX9 2).2.1 (TX9 2).2.2.1 ∈ am_tg := am_t1 133 rfl rfl
theorem lf_X11_165 : Cond.fieldLink RX11 165 RX1 (TX1 5).2.1 (TX1 5).2.2.1 ∈ am_tg := am_t1 155 rfl rfl
theorem lf_X11_169 : Cond.fieldLink RX11 169 RX5 (TX5 0).2.1 (TX5 0).2.2.1 ∈ am_tg := am_t1 61 rfl rfl
theorem lf_X11_18 : Cond.fieldLink RX11 18 RX11 (TX11 1).2.1 (TX11 1).2.2.1 ∈ am_tg := am_t2 152 rfl rfl
theorem lf_X11_183 : Cond.fieldLink RX11 183 RX3 (TX3 6).2.1 (TX3 6).2.2.1 ∈ am_tg := am_t2 64 rfl rfl
theorem lf_X11_190 : Cond.fieldLink RX11 190 RX1 (TX1 13).2.1 (TX1 13).2.2.1 ∈ am_tg := am_t1 181 rfl rfl
theorem lf_X11_197 : Cond.fieldLink RX11 197 RX3 (TX3 1).2.1 (TX3 1).2.2.1 ∈ am_tg := am_t2 58 rfl rfl
theorem lf_X11_207 : Cond.fieldLink RX11 207 RX1 (TX1 11).2.1 (TX1 11).2.2.1 ∈ am_tg := am_t1 173 rfl rfl
theorem lf_X11_210 : Cond.fieldLink RX11 210 RX1 (TX1 12).2.1 (TX1 12).2.2.1 ∈ am_tg := am_t1 177 rfl rfl
theorem lf_X11_216 : Cond.fieldLink RX11 216 RX0 (TX0 2).2.1 (TX0 2).2.2.1 ∈ am_tg := am_t2 98 rfl rfl
theorem lf_X11_217 : Cond.fieldLink RX11 217 RX3 (TX3 7).2.1 (TX3 7).2.2.1 ∈ am_tg := am_t2 66 rfl rfl
theorem lf_X11_229 : Cond.fieldLink RX11 229 RX1 (TX1 4).2.1 (TX1 4).2.2.1 ∈ am_tg := am_t1 152 rfl rfl
theorem lf_X11_232 : Cond.fieldLink RX11 232 RX1 (TX1 9).2.1 (TX1 9).2.2.1 ∈ am_tg := am_t1 166 rfl rfl
theorem lf_X11_235 : Cond.fieldLink RX11 235 RX1 (TX1 2).2.1 (TX1 2).2.2.1 ∈ am_tg := am_t1 147 rfl rfl
theorem lf_X11_251 : Cond.fieldLink RX11 251 RX1 (TX1 6).2.1 (TX1 6).2.2.1 ∈ am_tg := am_t1 158 rfl rfl
theorem lf_X11_255 : Cond.fieldLink RX11 255 RX6 (TX6 5).2.1 (TX6 5).2.2.1 ∈ am_tg := am_t1 89 rfl rfl
theorem lf_X11_26 : Cond.fieldLink RX11 26 RX11 (TX11 3).2.1 (TX11 3).2.2.1 ∈ am_tg := am_t2 154 rfl rfl
theorem lf_X11_289 : Cond.fieldLink RX11 289 RX10 (TX10 1).2.1 (TX10 1).2.2.1 ∈ am_tg := am_t2 140 rfl rfl
theorem lf_X11_292 : Cond.fieldLink RX11 292 RX10 (TX10 2).2.1 (TX10 2).2.2.1 ∈ am_tg := am_t2 142 rfl rfl
theorem lf_X11_321 : Cond.fieldLink RX11 321 RX1 (TX1 10).2.1 (TX1 10).2.2.1 ∈ am_tg := am_t1 169 rfl rfl
theorem lf_X11_324 : Cond.fieldLink RX11 324 RX1 (TX1 3).2.1 (TX1 3).2.2.1 ∈ am_tg := am_t1 149 rfl rfl
theorem lf_X11_33 : Cond.fieldLink RX11 33 RX11 (TX11 4).2.1 (TX11 4).2.2.1 ∈ am_tg := am_t2 155 rfl rfl
theorem lf_X11_358 : Cond.fieldLink RX11 358 RX0 (TX0 3).2.1 (TX0 3).2.2.1 ∈ am_tg := am_t2 100 rfl rfl
theorem lf_X11_361 : Cond.fieldLink RX11 361 RX0 (TX0 4).2.1 (TX0 4).2.2.1 ∈ am_tg := am_t2 102 rfl rfl
theorem lf_X11_364 : Cond.fieldLink RX11 364 RX0 (TX0 5).2.1 (TX0 5).2.2.1 ∈ am_tg := am_t2 104 rfl rfl
theorem lf_X11_37 : Cond.fieldLink RX11 37 RX11 (TX11 5).2.1 (TX11 5).2.2.1 ∈ am_tg := am_t2 156 rfl rfl
theorem lf_X11_373 : Cond.fieldLink RX11 373 RX5 (TX5 1).2.1 (TX5 1).2.2.1 ∈ am_tg := am_t1 64 rfl rfl
theorem lf_X11_380 : Cond.fieldLink RX11 380 RX5 (TX5 2).2.1 (TX5 2).2.2.1 ∈ am_tg := am_t1 67 rfl rfl
theorem lf_X11_40 : Cond.fieldLink RX11 40 RX11 (TX11 6).2.1 (TX11 6).2.2.1 ∈ am_tg := am_t2 157 rfl rfl
theorem lf_X11_414 : Cond.fieldLink RX11 414 RX2 (TX2 1).2.1 (TX2 1).2.2.1 ∈ am_tg := am_t2 126 rfl rfl
theorem lf_X11_431 : Cond.fieldLink RX11 431 RX11 (TX11 2).2.1 (TX11 2).2.2.1 ∈ am_tg := am_t2 153 rfl rfl
theorem lf_X11_442 : Cond.fieldLink RX11 442 RX1 (TX1 7).2.1 (TX1 7).2.2.1 ∈ am_tg := am_t1 161 rfl rfl
theorem lf_X11_445 : Cond.fieldLink RX11 445 RX1 (TX1 8).2.1 (TX1 8).2.2.1 ∈ am_tg := am_t1 164 rfl rfl
theorem lf_X11_454 : Cond.fieldLink RX11 454 RX1 (TX1 0).2.1 (TX1 0).2.2.1 ∈ am_tg := am_t1 143 rfl rfl
theorem lf_X11_461 : Cond.fieldLink RX11 461 RX1 (TX1 1).2.1 (TX1 1).2.2.1 ∈ am_tg := am_t1 145 rfl rfl
theorem lf_X11_465 : Cond.fieldLink RX11 465 RX3 (TX3 0).2.1 (TX3 0).2.2.1 ∈ am_tg := am_t2 56 rfl rfl
theorem lf_X11_48 : Cond.fieldLink RX11 48 RX11 (TX11 7).2.1 (TX11 7).2.2.1 ∈ am_tg := am_t2 158 rfl rfl
theorem lf_X11_55 : Cond.fieldLink RX11 55 RX11 (TX11 8).2.1 (TX11 8).2.2.1 ∈ am_tg := am_t2 159 rfl rfl
theorem lf_X11_62 : Cond.fieldLink RX11 62 RX11 (TX11 9).2.1 (TX11 9).2.2.1 ∈ am_tg := am_t2 160 rfl rfl
theorem lf_X11_66 : Cond.fieldLink RX11 66 RX11 (TX11 10).2.1 (TX11 10).2.2.1 ∈ am_tg := am_t2 161 rfl rfl
theorem lf_X11_72 : Cond.fieldLink RX11 72 RX11 (TX11 11).2.1 (TX11 11).2.2.1 ∈ am_tg := am_t2 162 rfl rfl
theorem lf_X11_79 : Cond.fieldLink RX11 79 RX11 (TX11 12).2.1 (TX11 12).2.2.1 ∈ am_tg := am_t2 163 rfl rfl
theorem lf_X11_83 : Cond.fieldLink RX11 83 RX11 (TX11 13).2.1 (TX11 13).2.2.1 ∈ am_tg := am_t2 164 rfl rfl
theorem lf_X11_87 : Cond.fieldLink RX11 87 RX8 (TX8 1).2.1 (TX8 1).2.2.1 ∈ am_tg := am_t2 18 rfl rfl
theorem lf_X12_100 : Cond.fieldLink RX12 100 RX12 (TX12 53).2.1 (TX12 53).2.2.1 ∈ am_tg := am_t8 180 rfl rfl
theorem lf_X12_103 : Cond.fieldLink RX12 103 RX12 (TX12 54).2.1 (TX12 54).2.2.1 ∈ am_tg := am_t8 181 rfl rfl
theorem lf_X12_107 : Cond.fieldLink RX12 107 RX12 (TX12 55).2.1 (TX12 55).2.2.1 ∈ am_tg := am_t8 182 rfl rfl
theorem lf_X12_110 : Cond.fieldLink RX12 110 RX12 (TX12 0).2.1 (TX12 0).2.2.1 ∈ am_tg := am_t8 127 rfl rfl
theorem lf_X12_113 : Cond.fieldLink RX12 113 RX12 (TX12 1).2.1 (TX12 1).2.2.1 ∈ am_tg := am_t8 128 rfl rfl
theorem lf_X12_116 : Cond.fieldLink RX12 116 RX12 (TX12 2).2.1 (TX12 2).2.2.1 ∈ am_tg := am_t8 129 rfl rfl
theorem lf_X12_119 : Cond.fieldLink RX12 119 RX12 (TX12 4).2.1 (TX12 4).2.2.1 ∈ am_tg := am_t8 131 rfl rfl
theorem lf_X12_126 : Cond.fieldLink RX12 126 RX12 (TX12 5).2.1 (TX12 5).2.2.1 ∈ am_tg := am_t8 132 rfl rfl
theorem lf_X12_129 : Cond.fieldLink RX12 129 RX12 (TX12 6).2.1 (TX12 6).2.2.1 ∈ am_tg := am_t8 133 rfl rfl
theorem lf_X12_13 : Cond.fieldLink RX12 13 RX12 (TX12 9).2.1 (TX12 9).2.2.1 ∈ am_tg := am_t8 136 rfl rfl
theorem lf_X12_152 : Cond.fieldLink RX12 152 RX12 (TX12 8).2.1 (TX12 8).2.2.1 ∈ am_tg := am_t8 135 rfl rfl
theorem lf_X12_17 : Cond.fieldLink RX12 17 RX12 (TX12 10).2.1 (TX12 10).2.2.1 ∈ am_tg := am_t8 137 rfl rfl
theorem lf_X12_170 : Cond.fieldLink RX12 170 RX12 (TX12 7).2.1 (TX12 7).2.2.1 ∈ am_tg := am_t8 134 rfl rfl
theorem lf_X12_195 : Cond.fieldLink RX12 195 RX12 (TX12 12).2.1 (TX12 12).2.2.1 ∈ am_tg := am_t8 139 rfl rfl
theorem lf_X12_208 : Cond.fieldLink RX12 208 RX12 (TX12 13).2.1 (TX12 13).2.2.1 ∈ am_tg := am_t8 140 rfl rfl
theorem lf_X12_22 : Cond.fieldLink RX12 22 RX12 (TX12 11).2.1 (TX12 11).2.2.1 ∈ am_tg := am_t8 138 rfl rfl
theorem lf_X12_220 : Cond.fieldLink RX12 220 RX12 (TX12 37).2.1 (TX12 37).2.2.1 ∈ am_tg := am_t8 164 rfl rfl
theorem lf_X12_25 : Cond.fieldLink RX12 25 RX12 (TX12 14).2.1 (TX12 14).2.2.1 ∈ am_tg := am_t8 141 rfl rfl
theorem lf_X12_250 : Cond.fieldLink RX12 250 RX12 (TX12 39).2.1 (TX12 39).2.2.1 ∈ am_tg := am_t8 166 rfl rfl
theorem lf_X12_253 : Cond.fieldLink RX12 253 RX12 (TX12 36).2.1 (TX12 36).2.2.1 ∈ am_tg := am_t8 163 rfl rfl
theorem lf_X12_256 : Cond.fieldLink RX12 256 RX12 (TX12 46).2.1 (TX12 46).2.2.1 ∈ am_tg := am_t8 173 rfl rfl
theorem lf_X12_259 : Cond.fieldLink RX12 259 RX12 (TX12 47).2.1 (TX12 47).2.2.1 ∈ am_tg := am_t8 174 rfl rfl
theorem lf_X12_262 : Cond.fieldLink RX12 262 RX12 (TX12 38).2.1 (TX12 38).2.2.1 ∈ am_tg := am_t8 165 rfl rfl
theorem lf_X12_265 : Cond.fieldLink RX12 265 RX12 (TX12 48).2.1 (TX12 48).2.2.1 ∈ am_tg := am_t8 175 rfl rfl
theorem lf_X12_268 : Cond.fieldLink RX12 268 RX12 (TX12 49).2.1 (TX12 49).2.2.1 ∈ am_tg := am_t8 176 rfl rfl
theorem lf_X12_271 : Cond.fieldLink RX12 271 RX12 (TX12 40).2.1 (TX12 40).2.2.1 ∈ am_tg := am_t8 167 rfl rfl
theorem lf_X12_275 : Cond.fieldLink RX12 275 RX12 (TX12 50).2.1 (TX12 50).2.2.1 ∈ am_tg := am_t8 177 rfl rfl
theorem lf_X12_28 : Cond.fieldLink RX12 28 RX12 (TX12 15).2.1 (TX12 15).2.2.1 ∈ am_tg := am_t8 142 rfl rfl
theorem lf_X12_31 : Cond.fieldLink RX12 31 RX12 (TX12 16).2.1 (TX12 16).2.2.1 ∈ am_tg := am_t8 143 rfl rfl
theorem lf_X12_330 : Cond.fieldLink RX12 330 RX12 (TX12 20).2.1 (TX12 20).2.2.1 ∈ am_tg := am_t8 147 rfl rfl
theorem lf_X12_34 : Cond.fieldLink RX12 34 RX12 (TX12 17).2.1 (TX12 17).2.2.1 ∈ am_tg := am_t8 144 rfl rfl
theorem lf_X12_342 : Cond.fieldLink RX12 342 RX12 (TX12 21).2.1 (TX12 21).2.2.1 ∈ am_tg := am_t8 148 rfl rfl
theorem lf_X12_37 : Cond.fieldLink RX12 37 RX12 (TX12 18).2.1 (TX12 18).2.2.1 ∈ am_tg := am_t8 145 rfl rfl
theorem lf_X12_371 : Cond.fieldLink RX12 371 RX12 (TX12 22).2.1 (TX12 22).2.2.1 ∈ am_tg := am_t8 149 rfl rfl
theorem lf_X12_40 : Cond.fieldLink RX12 40 RX12 (TX12 19).2.1 (TX12 19).2.2.1 ∈ am_tg := am_t8 146 rfl rfl
theorem lf_X12_415 : Cond.fieldLink RX12 415 RX12 (TX12 56).2.1 (TX12 56).2.2.1 ∈ am_tg := am_t8 183 rfl rfl
theorem lf_X12_426 : Cond.fieldLink RX12 426 RX12 (TX12 23).2.1 (TX12 23).2.2.1 ∈ am_tg := am_t8 150 rfl rfl
theorem lf_X12_43 : Cond.fieldLink RX12 43 RX12 (TX12 24).2.1 (TX12 24).2.2.1 ∈ am_tg := am_t8 151 rfl rfl
theorem lf_X12_46 : Cond.fieldLink RX12 46 RX12 (TX12 25).2.1 (TX12 25).2.2.1 ∈ am_tg := am_t8 152 rfl rfl
theorem lf_X12_49 : Cond.fieldLink RX12 49 RX12 (TX12 26).2.1 (TX12 26).2.2.1 ∈ am_tg := am_t8 153 rfl rfl
theorem lf_X12_52 : Cond.fieldLink RX12 52 RX12 (TX12 27).2.1 (TX12 27).2.2.1 ∈ am_tg := am_t8 154 rfl rfl
theorem lf_X12_55 : Cond.fieldLink RX12 55 RX12 (TX12 28).2.1 (TX12 28).2.2.1 ∈ am_tg := am_t8 155 rfl rfl
theorem lf_X12_58 : Cond.fieldLink RX12 58 RX12 (TX12 29).2.1 (TX12 29).2.2.1 ∈ am_tg := am_t8 156 rfl rfl
theorem lf_X12_61 : Cond.fieldLink RX12 61 RX12 (TX12 30).2.1 (TX12 30).2.2.1 ∈ am_tg := am_t8 157 rfl rfl
theorem lf_X12_64 : Cond.fieldLink RX12 64 RX12 (TX12 31).2.1 (TX12 31).2.2.1 ∈ am_tg := am_t8 158 rfl rfl
theorem lf_X12_67 : Cond.fieldLink RX12 67 RX12 (TX12 32).2.1 (TX12 32).2.2.1 ∈ am_tg := am_t8 159 rfl rfl
theorem lf_X12_70 : Cond.fieldLink RX12 70 RX12 (TX12 33).2.1 (TX12 33).2.2.1 ∈ am_tg := am_t8 160 rfl rfl
theorem lf_X12_73 : Cond.fieldLink RX12 73 RX12 (TX12 34).2.1 (TX12 34).2.2.1 ∈ am_tg := am_t8 161 rfl rfl
theorem lf_X12_76 : Cond.fieldLink RX12 76 RX12 (TX12 35).2.1 (TX12 35).2.2.1 ∈ am_tg := am_t8 162 rfl rfl
theorem lf_X12_79 : Cond.fieldLink RX12 79 RX12 (TX12 41).2.1 (TX12 41).2.2.1 ∈ am_tg := am_t8 168 rfl rfl
theorem lf_X12_82 : Cond.fieldLink RX12 82 RX12 (TX12 42).2.1 (TX12 42).2.2.1 ∈ am_tg := am_t8 169 rfl rfl
theorem lf_X12_85 : Cond.fieldLink RX12 85 RX12 (TX12 43).2.1 (TX12 43).2.2.1 ∈ am_tg := am_t8 170 rfl rfl
theorem lf_X12_88 : Cond.fieldLink RX12 88 RX12 (TX12 44).2.1 (TX12 44).2.2.1 ∈ am_tg := am_t8 171 rfl rfl
theorem lf_X12_9 : Cond.fieldLink RX12 9 RX12 (TX12 3).2.1 (TX12 3).2.2.1 ∈ am_tg := am_t8 130 rfl rfl
theorem lf_X12_91 : Cond.fieldLink RX12 91 RX12 (TX12 45).2.1 (TX12 45).2.2.1 ∈ am_tg := am_t8 172 rfl rfl
theorem lf_X12_94 : Cond.fieldLink RX12 94 RX12 (TX12 51).2.1 (TX12 51).2.2.1 ∈ am_tg := am_t8 178 rfl rfl
theorem lf_X12_97 : Cond.fieldLink RX12 97 RX12 (TX12 52).2.1 (TX12 52).2.2.1 ∈ am_tg := am_t8 179 rfl rfl
theorem lf_X1_11 : Cond.fieldLink RX1 11 RX1 (TX1 0).2.1 (TX1 0).2.2.1 ∈ am_tg := am_t1 142 rfl rfl
theorem lf_X1_19 : Cond.fieldLink RX1 19 RX1 (TX1 1).2.1 (TX1 1).2.2.1 ∈ am_tg := am_t1 144 rfl rfl
theorem lf_X1_29 : Cond.fieldLink RX1 29 RX1 (TX1 3).2.1 (TX1 3).2.2.1 ∈ am_tg := am_t1 148 rfl rfl
theorem lf_X1_62 : Cond.fieldLink RX1 62 RX1 (TX1 7).2.1 (TX1 7).2.2.1 ∈ am_tg := am_t1 159 rfl rfl
theorem lf_X1_65 : Cond.fieldLink RX1 65 RX1 (TX1 8).2.1 (TX1 8).2.2.1 ∈ am_tg := am_t1 163 rfl rfl
theorem lf_X1_68 : Cond.fieldLink RX1 68 RX1 (TX1 10).2.1 (TX1 10).2.2.1 ∈ am_tg := am_t1 168 rfl rfl
theorem lf_X2_15 : Cond.fieldLink RX2 15 RX2 (TX2 1).2.1 (TX2 1).2.2.1 ∈ am_tg := am_t2 125 rfl rfl
theorem lf_X2_19 : Cond.fieldLink RX2 19 RX7 (TX7 1).2.1 (TX7 1).2.2.1 ∈ am_tg := am_t1 112 rfl rfl
theorem lf_X2_9 : Cond.fieldLink RX2 9 RX2 (TX2 0).2.1 (TX2 0).2.2.1 ∈ am_tg := am_t2 124 rfl rfl
theorem lf_X3_109 : Cond.fieldLink RX3 109 RX5 (TX5 2).2.1 (TX5 2).2.2.1 ∈ am_tg := am_t1 66 rfl rfl
theorem lf_X3_116 : Cond.fieldLink RX3 116 RX0 (TX0 2).2.1 (TX0 2).2.2.1 ∈ am_tg := am_t2 97 rfl rfl
theorem lf_X3_14 : Cond.fieldLink RX3 14 RX3 (TX3 0).2.1 (TX3 0).2.2.1 ∈ am_tg := am_t2 55 rfl rfl
theorem lf_X3_20 : Cond.fieldLink RX3 20 RX3 (TX3 1).2.1 (TX3 1).2.2.1 ∈ am_tg := am_t2 57 rfl rfl
theorem lf_X3_26 : Cond.fieldLink RX3 26 RX3 (TX3 2).2.1 (TX3 2).2.2.1 ∈ am_tg := am_t2 59 rfl rfl
theorem lf_X3_30 : Cond.fieldLink RX3 30 RX3 (TX3 3).2.1 (TX3 3).2.2.1 ∈ am_tg := am_t2 60 rfl rfl
theorem lf_X3_34 : Cond.fieldLink RX3 34 RX3 (TX3 4).2.1 (TX3 4).2.2.1 ∈ am_tg := am_t2 61 rfl rfl
theorem lf_X3_40 : Cond.fieldLink RX3 40 RX3 (TX3 6).2.1 (TX3 6).2.2.1 ∈ am_tg := am_t2 63 rfl rfl
theorem lf_X3_44 : Cond.fieldLink RX3 44 RX3 (TX3 7).2.1 (TX3 7).2.2.1 ∈ am_tg := am_t2 65 rfl rfl
theorem lf_X3_59 : Cond.fieldLink RX3 59 RX5 (TX5 0).2.1 (TX5 0).2.2.1 ∈ am_tg := am_t1 60 rfl rfl
theorem lf_X3_68 : Cond.fieldLink RX3 68 RX5 (TX5 1).2.1 (TX5 1).2.2.1 ∈ am_tg := am_t1 63 rfl rfl
theorem lf_X3_77 : Cond.fieldLink RX3 77 RX3 (TX3 5).2.1 (TX3 5).2.2.1 ∈ am_tg := am_t2 62 rfl rfl
theorem lf_X3_80 : Cond.fieldLink RX3 80 RX7 (TX7 1).2.1 (TX7 1).2.2.1 ∈ am_tg := am_t1 115 rfl rfl
theorem lf_X4_10 : Cond.fieldLink RX4 10 RX4 (TX4 0).2.1 (TX4 0).2.2.1 ∈ am_tg := am_t1 220 rfl rfl
theorem lf_X4_16 : Cond.fieldLink RX4 16 RX4 (TX4 1).2.1 (TX4 1).2.2.1 ∈ am_tg := am_t1 221 rfl rfl
theorem lf_X4_20 : Cond.fieldLink RX4 20 RX1 (TX1 7).2.1 (TX1 7).2.2.1 ∈ am_tg := am_t1 160 rfl rfl
theorem lf_X4_26 : Cond.fieldLink RX4 26 RX4 (TX4 2).2.1 (TX4 2).2.2.1 ∈ am_tg := am_t1 222 rfl rfl
theorem lf_X4_27 : Cond.fieldLink RX4 27 RX1 (TX1 8).2.1 (TX1 8).2.2.1 ∈ am_tg := am_t1 162 rfl rfl
theorem lf_X4_30 : Cond.fieldLink RX4 30 RX4 (TX4 3).2.1 (TX4 3).2.2.1 ∈ am_tg := am_t1 223 rfl rfl
theorem lf_X4_31 : Cond.fieldLink RX4 31 RX1 (TX1 9).2.1 (TX1 9).2.2.1 ∈ am_tg := am_t1 165 rfl rfl
theorem lf_X4_34 : Cond.fieldLink RX4 34 RX4 (TX4 4).2.1 (TX4 4).2.2.1 ∈ am_tg := am_t1 224 rfl rfl
theorem lf_X4_35 : Cond.fieldLink RX4 35 RX1 (TX1 6).2.1 (TX1 6).2.2.1 ∈ am_tg := am_t1 157 rfl rfl
theorem lf_X4_39 : Cond.fieldLink RX4 39 RX6 (TX6 5).2.1 (TX6 5).2.2.1 ∈ am_tg := am_t1 88 rfl rfl
theorem lf_X4_44 : Cond.fieldLink RX4 44 RX4 (TX4 5).2.1 (TX4 5).2.2.1 ∈ am_tg := am_t1 225 rfl rfl
theorem lf_X4_47 : Cond.fieldLink RX4 47 RX1 (TX1 10).2.1 (TX1 10).2.2.1 ∈ am_tg := am_t1 167 rfl rfl
theorem lf_X4_50 : Cond.fieldLink RX4 50 RX4 (TX4 6).2.1 (TX4 6).2.2.1 ∈ am_tg := am_t1 226 rfl rfl
theorem lf_X4_51 : Cond.fieldLink RX4 51 RX1 (TX1 11).2.1 (TX1 11).2.2.1 ∈ am_tg := am_t1 171 rfl rfl
theorem lf_X4_54 : Cond.fieldLink RX4 54 RX4 (TX4 7).2.1 (TX4 7).2.2.1 ∈ am_tg := am_t1 227 rfl rfl
theorem lf_X4_55 : Cond.fieldLink RX4 55 RX1 (TX1 12).2.1 (TX1 12).2.2.1 ∈ am_tg := am_t1 175 rfl rfl
theorem lf_X4_58 : Cond.fieldLink RX4 58 RX4 (TX4 8).2.1 (TX4 8).2.2.1 ∈ am_tg := am_t1 228 rfl rfl
theorem lf_X4_59 : Cond.fieldLink RX4 59 RX1 (TX1 13).2.1 (TX1 13).2.2.1 ∈ am_tg := am_t1 179 rfl rfl
theorem lf_X4_62 : Cond.fieldLink RX4 62 RX4 (TX4 9).2.1 (TX4 9).2.2.1 ∈ am_tg := am_t1 229 rfl rfl
theorem lf_X4_63 : Cond.fieldLink RX4 63 RX1 (TX1 5).2.1 (TX1 5).2.2.1 ∈ am_tg := am_t1 154 rfl rfl
theorem lf_X4_68 : Cond.fieldLink RX4 68 RX1 (TX1 4).2.1 (TX1 4).2.2.1 ∈ am_tg := am_t1 151 rfl rfl
theorem lf_X5_13 : Cond.fieldLink RX5 13 RX5 (TX5 1).2.1 (TX5 1).2.2.1 ∈ am_tg := am_t1 62 rfl rfl
theorem lf_X5_16 : Cond.fieldLink RX5 16 RX5 (TX5 2).2.1 (TX5 2).2.2.1 ∈ am_tg := am_t1 65 rfl rfl
theorem lf_X5_7 : Cond.fieldLink RX5 7 RX5 (TX5 0).2.1 (TX5 0).2.2.1 ∈ am_tg := am_t1 59 rfl rfl
theorem lf_X6_15 : Cond.fieldLink RX6 15 RX6 (TX6 1).2.1 (TX6 1).2.2.1 ∈ am_tg := am_t1 83 rfl rfl
theorem lf_X6_18 : Cond.fieldLink RX6 18 RX6 (TX6 2).2.1 (TX6 2).2.2.1 ∈ am_tg := am_t1 84 rfl rfl
theorem lf_X6_21 : Cond.fieldLink RX6 21 RX6 (TX6 3).2.1 (TX6 3).2.2.1 ∈ am_tg := am_t1 85 rfl rfl
theorem lf_X6_24 : Cond.fieldLink RX6 24 RX6 (TX6 4).2.1 (TX6 4).2.2.1 ∈ am_tg := am_t1 86 rfl rfl
theorem lf_X6_27 : Cond.fieldLink RX6 27 RX6 (TX6 5).2.1 (TX6 5).2.2.1 ∈ am_tg := am_t1 87 rfl rfl
theorem lf_X6_52 : Cond.fieldLink RX6 52 RX9 (TX9 2).2.1 (TX9 2).2.2.1 ∈ am_tg := am_t1 132 rfl rfl
theorem lf_X6_9 : Cond.fieldLink RX6 9 RX6 (TX6 0).2.1 (TX6 0).2.2.1 ∈ am_tg := am_t1 82 rfl rfl
theorem lf_X7_15 : Cond.fieldLink RX7 15 RX7 (TX7 0).2.1 (TX7 0).2.2.1 ∈ am_tg := am_t1 111 rfl rfl
theorem lf_X7_25 : Cond.fieldLink RX7 25 RX7 (TX7 1).2.1 (TX7 1).2.2.1 ∈ am_tg := am_t1 113 rfl rfl
theorem lf_X8_11 : Cond.fieldLink RX8 11 RX8 (TX8 0).2.1 (TX8 0).2.2.1 ∈ am_tg := am_t2 17 rfl rfl
theorem lf_X8_119 : Cond.fieldLink RX8 119 RX8 (TX8 7).2.1 (TX8 7).2.2.1 ∈ am_tg := am_t2 27 rfl rfl
theorem lf_X8_15 : Cond.fieldLink RX8 15 RX8 (TX8 1).2.1 (TX8 1).2.2.1 ∈ am_tg := am_t2 19 rfl rfl
theorem lf_X8_19 : Cond.fieldLink RX8 19 RX8 (TX8 4).2.1 (TX8 4).2.2.1 ∈ am_tg := am_t2 24 rfl rfl
theorem lf_X8_26 : Cond.fieldLink RX8 26 RX8 (TX8 5).2.1 (TX8 5).2.2.1 ∈ am_tg := am_t2 25 rfl rfl
theorem lf_X8_29 : Cond.fieldLink RX8 29 RX8 (TX8 2).2.1 (TX8 2).2.2.1 ∈ am_tg := am_t2 20 rfl rfl
theorem lf_X8_32 : Cond.fieldLink RX8 32 RX8 (TX8 3).2.1 (TX8 3).2.2.1 ∈ am_tg := am_t2 22 rfl rfl
theorem lf_X8_55 : Cond.fieldLink RX8 55 RX7 (TX7 1).2.1 (TX7 1).2.2.1 ∈ am_tg := am_t1 116 rfl rfl
theorem lf_X8_71 : Cond.fieldLink RX8 71 RX8 (TX8 6).2.1 (TX8 6).2.2.1 ∈ am_tg := am_t2 26 rfl rfl
theorem lf_X8_88 : Cond.fieldLink RX8 88 RX9 (TX9 2).2.1 (TX9 2).2.2.1 ∈ am_tg := am_t1 131 rfl rfl
theorem lf_X9_15 : Cond.fieldLink RX9 15 RX9 (TX9 1).2.1 (TX9 1).2.2.1 ∈ am_tg := am_t1 129 rfl rfl
theorem lf_X9_18 : Cond.fieldLink RX9 18 RX9 (TX9 2).2.1 (TX9 2).2.2.1 ∈ am_tg := am_t1 130 rfl rfl
theorem lf_X9_9 : Cond.fieldLink RX9 9 RX9 (TX9 0).2.1 (TX9 0).2.2.1 ∈ am_tg := am_t1 128 rfl rfl
theorem lin_IllegalArgumentException : Cond.initialized "java/lang/IllegalArgumentException" ∈ am_tg := am_t1 18 rfl rfl
theorem lin_IllegalStateException : Cond.initialized "java/lang/IllegalStateException" ∈ am_tg := am_t1 33 rfl rfl
theorem lin_IndexOutOfBoundsException : Cond.initialized "java/lang/IndexOutOfBoundsException" ∈ am_tg := am_t1 30 rfl rfl
theorem lin_NoSuchElementException : Cond.initialized "java/util/NoSuchElementException" ∈ am_tg := am_t1 32 rfl rfl
theorem lm_J7_13 : Cond.methodLink RJ7 13 yJ7_rangeCheck_23922 ∈ am_tg := am_t3 84 rfl rfl
theorem lm_X0_103 : Cond.methodLink RX0 103 yX9_lastTo ∈ am_tg := am_t7 189 rfl rfl
theorem lm_X0_107 : Cond.methodLink RX0 107 yX9_add ∈ am_tg := am_t7 190 rfl rfl
theorem lm_X0_25 : Cond.methodLink RX0 25 yX0_isBlow ∈ am_tg := am_t3 20 rfl rfl
theorem lm_X0_34 : Cond.methodLink RX0 34 yX7_loud ∈ am_tg := am_t3 23 rfl rfl
theorem lm_X0_44 : Cond.methodLink RX0 44 yX7_loudest ∈ am_tg := am_t3 30 rfl rfl
theorem lm_X0_51 : Cond.methodLink RX0 51 yX0_tryStep ∈ am_tg := am_t7 149 rfl rfl
theorem lm_X0_55 : Cond.methodLink RX0 55 yJ7_fill_53178 ∈ am_tg := am_t7 153 rfl rfl
theorem lm_X0_61 : Cond.methodLink RX0 61 yX0_at ∈ am_tg := am_t7 156 rfl rfl
theorem lm_X0_64 : Cond.methodLinkNest RX0 64 yX11_left RX11 ∈ tables_1 := am_n7 157 rfl
theorem lm_X0_67 : Cond.methodLink RX0 67 Lib.Math.min.name ∈ am_tg := am_t7 158 rfl rfl
theorem lm_X0_72 : Cond.methodLink RX0 72 yX0_addLeaving ∈ am_tg := am_t7 159 rfl rfl
theorem lm_X0_75 : Cond.methodLink RX0 75 yX0_leavingAt ∈ am_tg := am_t7 163 rfl rfl
theorem lm_X0_78 : Cond.methodLink RX0 78 yX0_take ∈ am_tg := am_t7 167 rfl rfl
theorem lm_X0_88 : Cond.methodLinkNest RX0 88 yX11_cut RX11 ∈ tables_1 := am_n7 187 rfl
theorem lm_X0_91 : Cond.methodLink RX0 91 yX9_clear ∈ am_tg := am_t7 182 rfl rfl
theorem lm_X0_96 : Cond.methodLink RX0 96 yX0_numberOf ∈ am_tg := am_t7 183 rfl rfl
theorem lm_X0_99 : Cond.methodLink RX0 99 yX9_lastFrom ∈ am_tg := am_t7 188 rfl rfl
theorem lm_X10_15 : Cond.methodLink RX10 15 yX7_unlike ∈ am_tg := am_t6 239 rfl rfl
theorem lm_X10_28 : Cond.methodLink RX10 28 yX7_at ∈ am_tg := am_t7 14 rfl rfl
theorem lm_X10_32 : Cond.methodLinkNest RX10 32 yX11_left RX11 ∈ tables_1 := am_n7 15 rfl
theorem lm_X10_36 : Cond.methodLink RX10 36 Lib.Math.abs.name ∈ am_tg := am_t7 24 rfl rfl
theorem lm_X10_41 : Cond.methodLink RX10 41 yX10_turn ∈ am_tg := am_t8 18 rfl rfl
theorem lm_X10_45 : Cond.methodLink RX10 45 yX10_strength ∈ am_tg := am_t8 19 rfl rfl
theorem lm_X10_49 : Cond.methodLink RX10 49 yX10_strengthAt ∈ am_tg := am_t8 28 rfl rfl
theorem lm_X10_53 : Cond.methodLink RX10 53 yX10_isPeak ∈ am_tg := am_t8 24 rfl rfl
theorem lm_X10_57 : Cond.methodLink RX10 57 yX10_rankOf ∈ am_tg := am_t8 32 rfl rfl
theorem lm_X10_60 : Cond.methodLinkNest RX10 60 yX11_far RX11 ∈ tables_1 := am_n8 47 rfl
theorem lm_X11_101 : Cond.methodLink RX11 101 yX1_freeSound ∈ am_tg := am_t2 226 rfl rfl
theorem lm_X11_105 : Cond.methodLink RX11 105 yX8_readSound ∈ am_tg := am_t4 207 rfl rfl
theorem lm_X11_112 : Cond.methodLink RX11 112 yX1_takeSound ∈ am_tg := am_t3 8 rfl rfl
theorem lm_X11_116 : Cond.methodLink RX11 116 yX1_freeMap ∈ am_tg := am_t5 99 rfl rfl
theorem lm_X11_120 : Cond.methodLink RX11 120 yX8_readMap ∈ am_tg := am_t5 103 rfl rfl
theorem lm_X11_124 : Cond.methodLink RX11 124 yX1_takeMap ∈ am_tg := am_t5 132 rfl rfl
theorem lm_X11_130 : Cond.methodLink RX11 130 yX11_soundOf ∈ am_tg := am_t5 144 rfl rfl
theorem lm_X11_135 : Cond.methodLink RX11 135 yX7_toldAt ∈ am_tg := am_t2 214 rfl rfl
theorem lm_X11_139 : Cond.methodLink RX11 139 yX11_mapOf ∈ am_tg := am_t5 178 rfl rfl
theorem lm_X11_143 : Cond.methodLink RX11 143 yX11_within ∈ am_tg := am_t2 230 rfl rfl
theorem lm_X11_148 : Cond.methodLink RX11 148 yX9_lastTo ∈ am_tg := am_t5 197 rfl rfl
theorem lm_X11_151 : Cond.methodLink RX11 151 yX9_lastFrom ∈ am_tg := am_t5 198 rfl rfl
theorem lm_X11_154 : Cond.methodLink RX11 154 yX9_placeOf ∈ am_tg := am_t5 206 rfl rfl
theorem lm_X11_157 : Cond.methodLink RX11 157 yX9_whereOf ∈ am_tg := am_t5 218 rfl rfl
theorem lm_X11_160 : Cond.methodLink RX11 160 yX5_allowed ∈ am_tg := am_t5 231 rfl rfl
theorem lm_X11_172 : Cond.methodLink RX11 172 yX5_set ∈ am_tg := am_t5 235 rfl rfl
theorem lm_X11_176 : Cond.methodLink RX11 176 yX11_needLong ∈ am_tg := am_t6 4 rfl rfl
theorem lm_X11_180 : Cond.methodLink RX11 180 yX3_drawOut ∈ am_tg := am_t6 22 rfl rfl
theorem lm_X11_186 : Cond.methodLink RX11 186 yX0_find ∈ am_tg := am_t3 16 rfl rfl
theorem lm_X11_193 : Cond.methodLink RX11 193 yX3_moveBlows ∈ am_tg := am_t6 67 rfl rfl
theorem lm_X11_200 : Cond.methodLink RX11 200 yX3_seamTold ∈ am_tg := am_t6 83 rfl rfl
theorem lm_X11_204 : Cond.methodLink RX11 204 yX7_copyFrom ∈ am_tg := am_t2 233 rfl rfl
theorem lm_X11_213 : Cond.methodLink RX11 213 yX0_at ∈ am_tg := am_t6 101 rfl rfl
theorem lm_X11_221 : Cond.methodLink RX11 221 yX11_countedOf ∈ am_tg := am_t6 109 rfl rfl
theorem lm_X11_225 : Cond.methodLink RX11 225 yX11_harmOf ∈ am_tg := am_t6 113 rfl rfl
theorem lm_X11_239 : Cond.methodLink RX11 239 yX11_needLongForWays ∈ am_tg := am_t6 163 rfl rfl
theorem lm_X11_243 : Cond.methodLink RX11 243 yX9_to ∈ am_tg := am_t6 174 rfl rfl
theorem lm_X11_246 : Cond.methodLink RX11 246 yX3_unlikeTogether ∈ am_tg := am_t6 117 rfl rfl
theorem lm_X11_256 : Cond.methodLink RX11 256 yX6_add ∈ am_tg := am_t6 182 rfl rfl
theorem lm_X11_260 : Cond.methodLink RX11 260 yX6_reach ∈ am_tg := am_t6 193 rfl rfl
theorem lm_X11_264 : Cond.methodLink RX11 264 yX6_weightTogether ∈ am_tg := am_t6 198 rfl rfl
theorem lm_X11_267 : Cond.methodLink RX11 267 yX6_lengthOf ∈ am_tg := am_t6 203 rfl rfl
theorem lm_X11_270 : Cond.methodLink RX11 270 yX6_intoMap ∈ am_tg := am_t6 214 rfl rfl
theorem lm_X11_274 : Cond.methodLink RX11 274 yX7_holds ∈ am_tg := am_t6 231 rfl rfl
theorem lm_X11_278 : Cond.methodLink RX11 278 yX10_pitchOf ∈ am_tg := am_t6 235 rfl rfl
theorem lm_X11_282 : Cond.methodLink RX11 282 yX11_isPitch ∈ am_tg := am_t7 7 rfl rfl
theorem lm_X11_285 : Cond.methodLink RX11 285 yX10_turn ∈ am_tg := am_t7 10 rfl rfl
theorem lm_X11_295 : Cond.methodLink RX11 295 yX10_strength ∈ am_tg := am_t7 16 rfl rfl
theorem lm_X11_299 : Cond.methodLink RX11 299 yX10_eighth ∈ am_tg := am_t7 20 rfl rfl
theorem lm_X11_305 : Cond.methodLink RX11 305 yX3_singOut ∈ am_tg := am_t7 32 rfl rfl
theorem lm_X11_309 : Cond.methodLink RX11 309 yX7_widestStep ∈ am_tg := am_t3 38 rfl rfl
theorem lm_X11_312 : Cond.methodLink RX11 312 yX2_find ∈ am_tg := am_t7 48 rfl rfl
theorem lm_X11_314 : Cond.methodLink RX11 314 yX2_at ∈ am_tg := am_t7 53 rfl rfl
theorem lm_X11_315 : Cond.methodLink RX11 315 yX2_hundredths ∈ am_tg := am_t7 64 rfl rfl
theorem lm_X11_318 : Cond.methodLink RX11 318 yX11_isHum ∈ am_tg := am_t7 86 rfl rfl
theorem lm_X11_327 : Cond.methodLink RX11 327 yX1_nearestHum ∈ am_tg := am_t7 96 rfl rfl
theorem lm_X11_330 : Cond.methodLink RX11 330 yX1_humFar ∈ am_tg := am_t7 105 rfl rfl
theorem lm_X11_333 : Cond.methodLink RX11 333 yX9_clear ∈ am_tg := am_t7 113 rfl rfl
theorem lm_X11_336 : Cond.methodLink RX11 336 yX11_cut ∈ am_tg := am_t5 59 rfl rfl
theorem lm_X11_339 : Cond.methodLink RX11 339 yX11_bounded ∈ am_tg := am_t7 114 rfl rfl
theorem lm_X11_343 : Cond.methodLink RX11 343 yX9_add ∈ am_tg := am_t7 115 rfl rfl
theorem lm_X11_346 : Cond.methodLink RX11 346 yX2_intervals ∈ am_tg := am_t7 123 rfl rfl
theorem lm_X11_349 : Cond.methodLink RX11 349 yX2_turns ∈ am_tg := am_t7 124 rfl rfl
theorem lm_X11_352 : Cond.methodLink RX11 352 yX2_swing ∈ am_tg := am_t7 133 rfl rfl
theorem lm_X11_355 : Cond.methodLink RX11 355 yX0_findGrid ∈ am_tg := am_t7 145 rfl rfl
theorem lm_X11_367 : Cond.methodLink RX11 367 yX0_intoMap ∈ am_tg := am_t7 178 rfl rfl
theorem lm_X11_370 : Cond.methodLink RX11 370 yX9_addRest ∈ am_tg := am_t7 191 rfl rfl
theorem lm_X11_376 : Cond.methodLink RX11 376 yX7_findLoop ∈ am_tg := am_t7 204 rfl rfl
theorem lm_X11_383 : Cond.methodLink RX11 383 yX7_bestJoin ∈ am_tg := am_t7 216 rfl rfl
theorem lm_X11_386 : Cond.methodLink RX11 386 yX7_joinOf ∈ am_tg := am_t7 220 rfl rfl
theorem lm_X11_390 : Cond.methodLink RX11 390 yX7_resampleOf ∈ am_tg := am_t7 234 rfl rfl
theorem lm_X11_393 : Cond.methodLink RX11 393 Lib.Math.max.name ∈ am_tg := am_t3 4 rfl rfl
theorem lm_X11_398 : Cond.methodLink RX11 398 yX7_loudest ∈ am_tg := am_t8 5 rfl rfl
theorem lm_X11_401 : Cond.methodLink RX11 401 yX11_far ∈ am_tg := am_t8 6 rfl rfl
theorem lm_X11_404 : Cond.methodLink RX11 404 yX10_turnAll ∈ am_tg := am_t8 14 rfl rfl
theorem lm_X11_408 : Cond.methodLink RX11 408 yX10_rankedPeak ∈ am_tg := am_t8 20 rfl rfl
theorem lm_X11_411 : Cond.methodLink RX11 411 yX10_nearestPeak ∈ am_tg := am_t8 43 rfl rfl
theorem lm_X11_415 : Cond.methodLink RX11 415 yX2_intoMap ∈ am_tg := am_t8 55 rfl rfl
theorem lm_X11_417 : Cond.methodLink RX11 417 yX11_isStream ∈ am_tg := am_t8 82 rfl rfl
theorem lm_X11_420 : Cond.methodLink RX11 420 yX11_isBuffer ∈ am_tg := am_t8 85 rfl rfl
theorem lm_X11_423 : Cond.methodLink RX11 423 yX11_leastLag ∈ am_tg := am_t8 95 rfl rfl
theorem lm_X11_427 : Cond.methodLink RX11 427 yX7_farFrom ∈ am_tg := am_t8 115 rfl rfl
theorem lm_X11_434 : Cond.methodLink RX11 434 yX4_take ∈ am_tg := am_t3 50 rfl rfl
theorem lm_X11_438 : Cond.methodLink RX11 438 yX4_giveBack ∈ am_tg := am_t3 69 rfl rfl
theorem lm_X11_441 : Cond.methodLink RX11 441 yX3_clear ∈ am_tg := am_t3 73 rfl rfl
theorem lm_X11_468 : Cond.methodLink RX11 468 yX3_smearTogether ∈ am_tg := am_t6 121 rfl rfl
theorem lm_X11_471 : Cond.methodLink RX11 471 yX3_ringTogether ∈ am_tg := am_t6 130 rfl rfl
theorem lm_X11_476 : Cond.methodLink RX11 476 Lib.MathLoose.min_long.x ∈ am_tg := am_t6 139 rfl rfl
theorem lm_X11_480 : Cond.methodLink RX11 480 yX11_liveFails ∈ am_tg := am_t8 98 rfl rfl
theorem lm_X11_484 : Cond.methodLink RX11 484 Lib.Math.min.name ∈ am_tg := am_t3 3 rfl rfl
theorem lm_X11_486 : Cond.methodLink RX11 486 Lib.Math.abs.name ∈ am_tg := am_t3 45 rfl rfl
theorem lm_X11_489 : Cond.methodLink RX11 489 yX11_left ∈ am_tg := am_t5 56 rfl rfl
theorem lm_X11_91 : Cond.methodLink RX11 91 yX8_addNumber ∈ am_tg := am_t2 198 rfl rfl
theorem lm_X11_94 : Cond.methodLink RX11 94 yX11_need ∈ am_tg := am_t4 188 rfl rfl
theorem lm_X11_98 : Cond.methodLink RX11 98 yX8_takeText ∈ am_tg := am_t4 202 rfl rfl
theorem lm_X12_122 : Cond.methodLink RX12 122 yX12_byteAt ∈ am_tg := am_t9 86 rfl rfl
theorem lm_X12_132 : Cond.methodLink RX12 132 yX12_blanks ∈ am_tg := am_t9 82 rfl rfl
theorem lm_X12_135 : Cond.methodLink RX12 135 yX12_isDigit ∈ am_tg := am_t9 121 rfl rfl
theorem lm_X12_139 : Cond.methodLink RX12 139 yX12_wrong ∈ am_tg := am_t9 109 rfl rfl
theorem lm_X12_144 : Cond.methodLink RX12 144 yX12_in ∈ am_tg := am_t9 71 rfl rfl
theorem lm_X12_148 : Cond.methodLink RX12 148 yX12_number ∈ am_tg := am_t9 117 rfl rfl
theorem lm_X12_155 : Cond.methodLink RX12 155 yX12_wordHere ∈ am_tg := am_t9 102 rfl rfl
theorem lm_X12_159 : Cond.methodLink RX12 159 yX12_word ∈ am_tg := am_t9 106 rfl rfl
theorem lm_X12_163 : Cond.methodLink RX12 163 yX12_isWord ∈ am_tg := am_t9 98 rfl rfl
theorem lm_X12_167 : Cond.methodLink RX12 167 yX12_kindHere ∈ am_tg := am_t9 94 rfl rfl
theorem lm_X12_173 : Cond.methodLink RX12 173 yX12_skipWord ∈ am_tg := am_t9 113 rfl rfl
theorem lm_X12_176 : Cond.methodLink RX12 176 yX12_manyHere ∈ am_tg := am_t9 125 rfl rfl
theorem lm_X12_179 : Cond.methodLink RX12 179 yX12_sign ∈ am_tg := am_t9 129 rfl rfl
theorem lm_X12_183 : Cond.methodLink RX12 183 yX12_wave ∈ am_tg := am_t9 133 rfl rfl
theorem lm_X12_187 : Cond.methodLink RX12 187 yX12_within ∈ am_tg := am_t9 136 rfl rfl
theorem lm_X12_191 : Cond.methodLink RX12 191 yX12_bad ∈ am_tg := am_t9 74 rfl rfl
theorem lm_X12_198 : Cond.methodLink RX12 198 yX12_begins ∈ am_tg := am_t9 78 rfl rfl
theorem lm_X12_201 : Cond.methodLink RX12 201 yX12_clause ∈ am_tg := am_t9 90 rfl rfl
theorem lm_X12_204 : Cond.methodLink RX12 204 yX12_keeps ∈ am_tg := am_t9 140 rfl rfl
theorem lm_X12_211 : Cond.methodLink RX12 211 yX12_mark ∈ am_tg := am_t9 148 rfl rfl
theorem lm_X12_214 : Cond.methodLink RX12 214 yX12_keepsMap ∈ am_tg := am_t9 152 rfl rfl
theorem lm_X12_217 : Cond.methodLink RX12 217 yX12_isSound ∈ am_tg := am_t9 164 rfl rfl
theorem lm_X12_223 : Cond.methodLink RX12 223 yX12_lengthNow ∈ am_tg := am_t9 204 rfl rfl
theorem lm_X12_226 : Cond.methodLink RX12 226 yX12_placeNow ∈ am_tg := am_t9 200 rfl rfl
theorem lm_X12_229 : Cond.methodLink RX12 229 yX12_isMap ∈ am_tg := am_t9 176 rfl rfl
theorem lm_X12_232 : Cond.methodLink RX12 232 yX12_lengthOf ∈ am_tg := am_t9 180 rfl rfl
theorem lm_X12_235 : Cond.methodLink RX12 235 yX12_lastOf ∈ am_tg := am_t9 184 rfl rfl
theorem lm_X12_238 : Cond.methodLink RX12 238 yX12_lays ∈ am_tg := am_t9 192 rfl rfl
theorem lm_X12_241 : Cond.methodLink RX12 241 yX12_takes ∈ am_tg := am_t9 196 rfl rfl
theorem lm_X12_244 : Cond.methodLink RX12 244 yX12_laysBack ∈ am_tg := am_t9 208 rfl rfl
theorem lm_X12_247 : Cond.methodLink RX12 247 yX12_whereNow ∈ am_tg := am_t9 216 rfl rfl
theorem lm_X12_278 : Cond.methodLink RX12 278 yX12_arePieces ∈ am_tg := am_t9 224 rfl rfl
theorem lm_X12_281 : Cond.methodLink RX12 281 yX12_amount ∈ am_tg := am_t10 19 rfl rfl
theorem lm_X12_284 : Cond.methodLink RX12 284 yX12_lies ∈ am_tg := am_t10 11 rfl rfl
theorem lm_X12_287 : Cond.methodLink RX12 287 yX12_unlike ∈ am_tg := am_t10 15 rfl rfl
theorem lm_X12_290 : Cond.methodLink RX12 290 yX12_takesSound ∈ am_tg := am_t10 3 rfl rfl
theorem lm_X12_293 : Cond.methodLink RX12 293 yX12_draws ∈ am_tg := am_t10 7 rfl rfl
theorem lm_X12_296 : Cond.methodLink RX12 296 yX12_badBoth ∈ am_tg := am_t9 231 rfl rfl
theorem lm_X12_300 : Cond.methodLink RX12 300 yX12_isShort ∈ am_tg := am_t9 235 rfl rfl
theorem lm_X12_303 : Cond.methodLink RX12 303 yX12_drawsBoth ∈ am_tg := am_t9 239 rfl rfl
theorem lm_X12_306 : Cond.methodLink RX12 306 yX12_more ∈ am_tg := am_t10 30 rfl rfl
theorem lm_X12_309 : Cond.methodLink RX12 309 yX12_findBlows ∈ am_tg := am_t10 26 rfl rfl
theorem lm_X12_312 : Cond.methodLink RX12 312 yX12_fromAt ∈ am_tg := am_t10 81 rfl rfl
theorem lm_X12_315 : Cond.methodLink RX12 315 yX12_smear ∈ am_tg := am_t10 73 rfl rfl
theorem lm_X12_318 : Cond.methodLink RX12 318 yX12_isStill ∈ am_tg := am_t10 77 rfl rfl
theorem lm_X12_321 : Cond.methodLink RX12 321 yX12_harmOf ∈ am_tg := am_t10 69 rfl rfl
theorem lm_X12_327 : Cond.methodLink RX12 327 yX12_counted ∈ am_tg := am_t10 65 rfl rfl
theorem lm_X12_333 : Cond.methodLink RX12 333 yX12_unlikeOf ∈ am_tg := am_t10 107 rfl rfl
theorem lm_X12_336 : Cond.methodLink RX12 336 yX12_isSomeShort ∈ am_tg := am_t10 99 rfl rfl
theorem lm_X12_339 : Cond.methodLink RX12 339 yX12_bestWay ∈ am_tg := am_t10 103 rfl rfl
theorem lm_X12_345 : Cond.methodLink RX12 345 yX12_plans ∈ am_tg := am_t10 123 rfl rfl
theorem lm_X12_348 : Cond.methodLink RX12 348 yX12_badRow ∈ am_tg := am_t10 135 rfl rfl
theorem lm_X12_351 : Cond.methodLink RX12 351 yX12_half ∈ am_tg := am_t10 147 rfl rfl
theorem lm_X12_354 : Cond.methodLink RX12 354 yX12_turnedBy ∈ am_tg := am_t10 143 rfl rfl
theorem lm_X12_357 : Cond.methodLink RX12 357 yX12_strengthOf ∈ am_tg := am_t10 150 rfl rfl
theorem lm_X12_361 : Cond.methodLink RX12 361 yX12_loudest ∈ am_tg := am_t10 158 rfl rfl
theorem lm_X12_365 : Cond.methodLink RX12 365 yX12_findCrossings ∈ am_tg := am_t10 169 rfl rfl
theorem lm_X12_368 : Cond.methodLink RX12 368 yX12_periodOf ∈ am_tg := am_t10 177 rfl rfl
theorem lm_X12_374 : Cond.methodLink RX12 374 yX12_less ∈ am_tg := am_t10 189 rfl rfl
theorem lm_X12_377 : Cond.methodLink RX12 377 yX12_oneMark ∈ am_tg := am_t10 196 rfl rfl
theorem lm_X12_380 : Cond.methodLink RX12 380 yX12_interval ∈ am_tg := am_t10 204 rfl rfl
theorem lm_X12_383 : Cond.methodLink RX12 383 yX12_offBy ∈ am_tg := am_t10 216 rfl rfl
theorem lm_X12_386 : Cond.methodLink RX12 386 yX12_beatOf ∈ am_tg := am_t10 212 rfl rfl
theorem lm_X12_389 : Cond.methodLink RX12 389 yX12_numberOf ∈ am_tg := am_t10 224 rfl rfl
theorem lm_X12_392 : Cond.methodLink RX12 392 yX12_rises ∈ am_tg := am_t10 227 rfl rfl
theorem lm_X12_395 : Cond.methodLink RX12 395 yX12_endsMap ∈ am_tg := am_t10 231 rfl rfl
theorem lm_X12_398 : Cond.methodLink RX12 398 yX12_soundAt ∈ am_tg := am_t11 7 rfl rfl
theorem lm_X12_401 : Cond.methodLink RX12 401 yX12_findStrengths ∈ am_tg := am_t11 19 rfl rfl
theorem lm_X12_405 : Cond.methodLink RX12 405 yX12_isPeak ∈ am_tg := am_t11 23 rfl rfl
theorem lm_X12_408 : Cond.methodLink RX12 408 yX12_isLive ∈ am_tg := am_t11 43 rfl rfl
theorem lm_X12_412 : Cond.methodLink RX12 412 yX12_fails ∈ am_tg := am_t11 46 rfl rfl
theorem lm_X12_418 : Cond.methodLink RX12 418 yX12_moves ∈ am_tg := am_t11 69 rfl rfl
theorem lm_X12_422 : Cond.methodLink RX12 422 yX12_movesRow ∈ am_tg := am_t11 73 rfl rfl
theorem lm_X12_429 : Cond.methodLink RX12 429 yX12_movesAll ∈ am_tg := am_t11 65 rfl rfl
theorem lm_X1_71 : Cond.methodLink RX1 71 yX1_humFar ∈ am_tg := am_t7 100 rfl rfl
theorem lm_X1_75 : Cond.methodLinkNest RX1 75 yX11_far RX11 ∈ tables_1 := am_n7 104 rfl
theorem lm_X2_22 : Cond.methodLink RX2 22 yX7_at ∈ am_tg := am_t7 52 rfl rfl
theorem lm_X2_26 : Cond.methodLink RX2 26 Lib.Math.max.name ∈ am_tg := am_t7 72 rfl rfl
theorem lm_X2_32 : Cond.methodLink RX2 32 yX2_at ∈ am_tg := am_t7 77 rfl rfl
theorem lm_X2_33 : Cond.methodLink RX2 33 yX2_intervals ∈ am_tg := am_t7 68 rfl rfl
theorem lm_X2_37 : Cond.methodLink RX2 37 yX2_across ∈ am_tg := am_t7 73 rfl rfl
theorem lm_X2_40 : Cond.methodLinkNest RX2 40 yX11_cut RX11 ∈ tables_1 := am_n7 78 rfl
theorem lm_X2_43 : Cond.methodLink RX2 43 yX2_interval ∈ am_tg := am_t7 128 rfl rfl
theorem lm_X2_46 : Cond.methodLinkNest RX2 46 yX11_far RX11 ∈ tables_1 := am_n7 132 rfl
theorem lm_X2_49 : Cond.methodLink RX2 49 Lib.Math.min.name ∈ am_tg := am_t7 137 rfl rfl
theorem lm_X2_52 : Cond.methodLink RX2 52 yX9_clear ∈ am_tg := am_t8 59 rfl rfl
theorem lm_X2_57 : Cond.methodLinkNest RX2 57 yX11_left RX11 ∈ tables_1 := am_n8 60 rfl
theorem lm_X2_60 : Cond.methodLink RX2 60 yX2_addSteadied ∈ am_tg := am_t8 61 rfl rfl
theorem lm_X2_64 : Cond.methodLink RX2 64 yX9_lastFrom ∈ am_tg := am_t8 65 rfl rfl
theorem lm_X2_67 : Cond.methodLink RX2 67 yX9_lastTo ∈ am_tg := am_t8 66 rfl rfl
theorem lm_X2_70 : Cond.methodLink RX2 70 yX9_add ∈ am_tg := am_t8 67 rfl rfl
theorem lm_X3_102 : Cond.methodLink RX3 102 yX7_fadeIn ∈ am_tg := am_t6 55 rfl rfl
theorem lm_X3_105 : Cond.methodLinkNest RX3 105 yX11_bounded RX11 ∈ tables_1 := am_n6 49 rfl
theorem lm_X3_112 : Cond.methodLinkNest RX3 112 yX11_within RX11 ∈ tables_1 := am_n6 50 rfl
theorem lm_X3_119 : Cond.methodLink RX3 119 yX0_at ∈ am_tg := am_t6 71 rfl rfl
theorem lm_X3_122 : Cond.methodLink RX3 122 yX9_whereOf ∈ am_tg := am_t6 75 rfl rfl
theorem lm_X3_125 : Cond.methodLink RX3 125 yX3_clear ∈ am_tg := am_t7 36 rfl rfl
theorem lm_X3_128 : Cond.methodLinkNest RX3 128 yX11_cut RX11 ∈ tables_1 := am_n7 37 rfl
theorem lm_X3_131 : Cond.methodLink RX3 131 yX7_loudest ∈ am_tg := am_t7 38 rfl rfl
theorem lm_X3_134 : Cond.methodLinkNest RX3 134 yX11_wave RX11 ∈ tables_1 := am_n7 39 rfl
theorem lm_X3_137 : Cond.methodLink RX3 137 yX7_put ∈ am_tg := am_t7 40 rfl rfl
theorem lm_X3_141 : Cond.methodLink RX3 141 yX7_loud ∈ am_tg := am_t6 125 rfl rfl
theorem lm_X3_144 : Cond.methodLink RX3 144 yX3_halfLoud ∈ am_tg := am_t6 126 rfl rfl
theorem lm_X3_148 : Cond.methodLinkNest RX3 148 yX11_far RX11 ∈ tables_1 := am_n6 129 rfl
theorem lm_X3_151 : Cond.methodLink RX3 151 yX7_silent ∈ am_tg := am_t6 134 rfl rfl
theorem lm_X3_37 : Cond.methodLink RX3 37 yX7_start ∈ am_tg := am_t3 77 rfl rfl
theorem lm_X3_48 : Cond.methodLink RX3 48 yX7_copyFrom ∈ am_tg := am_t6 26 rfl rfl
theorem lm_X3_52 : Cond.methodLink RX3 52 yX9_copyFrom ∈ am_tg := am_t6 27 rfl rfl
theorem lm_X3_55 : Cond.methodLink RX3 55 yX9_lastTo ∈ am_tg := am_t6 33 rfl rfl
theorem lm_X3_64 : Cond.methodLink RX3 64 yX7_lay ∈ am_tg := am_t6 34 rfl rfl
theorem lm_X3_71 : Cond.methodLink RX3 71 Lib.Math.max.name ∈ am_tg := am_t6 38 rfl rfl
theorem lm_X3_83 : Cond.methodLink RX3 83 yX3_layPiece ∈ am_tg := am_t6 39 rfl rfl
theorem lm_X3_87 : Cond.methodLink RX3 87 Lib.Math.min.name ∈ am_tg := am_t6 43 rfl rfl
theorem lm_X3_90 : Cond.methodLink RX3 90 yX9_placeOf ∈ am_tg := am_t6 44 rfl rfl
theorem lm_X3_94 : Cond.methodLink RX3 94 yX3_bestOffset ∈ am_tg := am_t6 45 rfl rfl
theorem lm_X3_98 : Cond.methodLink RX3 98 yX7_unlike ∈ am_tg := am_t6 51 rfl rfl
theorem lm_X4_64 : Cond.methodLink RX4 64 yX5_copyFrom ∈ am_tg := am_t3 54 rfl rfl
theorem lm_X4_69 : Cond.methodLink RX4 69 yX4_copyCounts ∈ am_tg := am_t3 62 rfl rfl
theorem lm_X5_19 : Cond.methodLinkNest RX5 19 yX11_within RX11 ∈ tables_1 := am_n5 234 rfl
theorem lm_X5_25 : Cond.methodLink RX5 25 yX5_set ∈ am_tg := am_t3 58 rfl rfl
theorem lm_X6_31 : Cond.methodLinkNest RX6 31 yX11_bounded RX11 ∈ tables_1 := am_n6 197 rfl
theorem lm_X6_35 : Cond.methodLinkNest RX6 35 yX11_far RX11 ∈ tables_1 := am_n6 202 rfl
theorem lm_X6_39 : Cond.methodLink RX6 39 yX9_clear ∈ am_tg := am_t6 218 rfl rfl
theorem lm_X6_44 : Cond.methodLink RX6 44 yX9_add ∈ am_tg := am_t6 219 rfl rfl
theorem lm_X6_48 : Cond.methodLink RX6 48 yX9_stretchLast ∈ am_tg := am_t6 220 rfl rfl
theorem lm_X7_21 : Cond.methodLinkNest RX7 21 yX11_bounded RX11 ∈ tables_1 := am_n3 0 rfl
theorem lm_X7_29 : Cond.methodLink RX7 29 yJ7_fill_fda19 ∈ am_tg := am_t3 81 rfl rfl
theorem lm_X7_35 : Cond.methodLink RX7 35 yX7_at ∈ am_tg := am_t2 218 rfl rfl
theorem lm_X7_39 : Cond.methodLink RX7 39 Lib.Math.abs.name ∈ am_tg := am_t3 27 rfl rfl
theorem lm_X7_42 : Cond.methodLink RX7 42 Lib.Math.min.name ∈ am_tg := am_t2 237 rfl rfl
theorem lm_X7_45 : Cond.methodLink RX7 45 arraycopyName ∈ am_tg := am_t3 5 rfl rfl
theorem lm_X7_51 : Cond.methodLinkNest RX7 51 yX11_far RX11 ∈ tables_1 := am_n3 42 rfl
theorem lm_X7_54 : Cond.methodLink RX7 54 yX7_add ∈ am_tg := am_t5 72 rfl rfl
theorem lm_X7_58 : Cond.methodLinkNest RX7 58 yX11_wave RX11 ∈ tables_1 := am_n5 53 rfl
theorem lm_X7_62 : Cond.methodLinkNest RX7 62 yX11_left RX11 ∈ tables_1 := am_n5 71 rfl
theorem lm_X7_65 : Cond.methodLink RX7 65 yX7_put ∈ am_tg := am_t5 62 rfl rfl
theorem lm_X7_69 : Cond.methodLinkNest RX7 69 yX11_cut RX11 ∈ tables_1 := am_n6 59 rfl
theorem lm_X7_72 : Cond.methodLink RX7 72 yX7_unlike ∈ am_tg := am_t7 208 rfl rfl
theorem lm_X7_76 : Cond.methodLink RX7 76 yX7_start ∈ am_tg := am_t7 224 rfl rfl
theorem lm_X7_79 : Cond.methodLink RX7 79 yX7_lay ∈ am_tg := am_t7 225 rfl rfl
theorem lm_X7_83 : Cond.methodLink RX7 83 yX7_fadeIn ∈ am_tg := am_t7 226 rfl rfl
theorem lm_X7_9 : Cond.methodLink RX7 9 Lib.Math.max.name ∈ am_tg := am_t1 108 rfl rfl
theorem lm_X8_103 : Cond.methodLink RX8 103 yX7_layHum ∈ am_tg := am_t5 49 rfl rfl
theorem lm_X8_106 : Cond.methodLink RX8 106 yX7_addHiss ∈ am_tg := am_t5 66 rfl rfl
theorem lm_X8_110 : Cond.methodLink RX8 110 yX7_addBlow ∈ am_tg := am_t5 76 rfl rfl
theorem lm_X8_113 : Cond.methodLink RX8 113 yX7_addWave ∈ am_tg := am_t5 80 rfl rfl
theorem lm_X8_116 : Cond.methodLink RX8 116 yX7_addStill ∈ am_tg := am_t5 84 rfl rfl
theorem lm_X8_122 : Cond.methodLink RX8 122 yX8_byteAt ∈ am_tg := am_t4 220 rfl rfl
theorem lm_X8_126 : Cond.methodLinkNest RX8 126 yX11_within RX11 ∈ tables_1 := am_n4 232 rfl
theorem lm_X8_130 : Cond.methodLink RX8 130 yX8_skipBlanks ∈ am_tg := am_t4 216 rfl rfl
theorem lm_X8_133 : Cond.methodLink RX8 133 yX8_isLetter ∈ am_tg := am_t4 228 rfl rfl
theorem lm_X8_137 : Cond.methodLink RX8 137 am_yLen ∈ am_tg := am_t5 2 rfl rfl
theorem lm_X8_142 : Cond.methodLink RX8 142 am_yChr ∈ am_tg := am_t5 3 rfl rfl
theorem lm_X8_146 : Cond.methodLink RX8 146 yX8_isDigit ∈ am_tg := am_t5 39 rfl rfl
theorem lm_X8_150 : Cond.methodLink RX8 150 Lib.Math.min.name ∈ am_tg := am_t5 44 rfl rfl
theorem lm_X8_22 : Cond.methodLinkNest RX8 22 yX11_bounded RX11 ∈ tables_1 := am_n4 206 rfl
theorem lm_X8_35 : Cond.methodLink RX8 35 yX7_start ∈ am_tg := am_t4 211 rfl rfl
theorem lm_X8_41 : Cond.methodLink RX8 41 yX8_moreComes ∈ am_tg := am_t4 212 rfl rfl
theorem lm_X8_45 : Cond.methodLink RX8 45 yX8_readWord ∈ am_tg := am_t4 224 rfl rfl
theorem lm_X8_48 : Cond.methodLink RX8 48 yX8_readClause ∈ am_tg := am_t4 233 rfl rfl
theorem lm_X8_52 : Cond.methodLink RX8 52 yX8_readEnd ∈ am_tg := am_t5 88 rfl rfl
theorem lm_X8_56 : Cond.methodLink RX8 56 yX8_fail ∈ am_tg := am_t5 31 rfl rfl
theorem lm_X8_60 : Cond.methodLink RX8 60 yX9_clear ∈ am_tg := am_t5 107 rfl rfl
theorem lm_X8_67 : Cond.methodLink RX8 67 yX8_isWord ∈ am_tg := am_t4 238 rfl rfl
theorem lm_X8_74 : Cond.methodLink RX8 74 yX9_lastFrom ∈ am_tg := am_t5 112 rfl rfl
theorem lm_X8_78 : Cond.methodLink RX8 78 yX8_readNumber ∈ am_tg := am_t5 35 rfl rfl
theorem lm_X8_82 : Cond.methodLink RX8 82 yX9_lastTo ∈ am_tg := am_t5 120 rfl rfl
theorem lm_X8_85 : Cond.methodLink RX8 85 yX9_add ∈ am_tg := am_t5 128 rfl rfl
theorem lm_X8_99 : Cond.methodLink RX8 99 yX8_readMany ∈ am_tg := am_t5 45 rfl rfl
theorem lm_X9_22 : Cond.methodLink RX9 22 yX9_lastTo ∈ am_tg := am_t5 222 rfl rfl
theorem lm_X9_26 : Cond.methodLink RX9 26 yX9_lastFrom ∈ am_tg := am_t7 195 rfl rfl
theorem lm_X9_29 : Cond.methodLink RX9 29 yX9_add ∈ am_tg := am_t7 196 rfl rfl
theorem lm_X9_33 : Cond.methodLinkNest RX9 33 yX11_bounded RX11 ∈ tables_1 := am_n6 31 rfl
theorem lm_X9_37 : Cond.methodLink RX9 37 arraycopyName ∈ am_tg := am_t6 32 rfl rfl
theorem lm_X9_43 : Cond.methodLink RX9 43 yX9_from ∈ am_tg := am_t5 116 rfl rfl
theorem lm_X9_47 : Cond.methodLink RX9 47 yX9_to ∈ am_tg := am_t5 124 rfl rfl
theorem lm_X9_50 : Cond.methodLinkNest RX9 50 yX11_cut RX11 ∈ tables_1 := am_n5 210 rfl
theorem lm_X9_54 : Cond.methodLink RX9 54 yX9_placeOf ∈ am_tg := am_t5 223 rfl rfl
theorem ht_X11_304 : ∀ w ∈ vx_at0 RX11 304 "java/lang/IllegalStateException" ["java/lang/RuntimeException", "java/lang/Exception"], w ∈ am_tg ∨ (am_dc w = true ∧ w ∈ tables_1 ∧ w.onTables = true) := by decide +kernel
theorem ht_X11_450 : ∀ w ∈ vx_at0 RX11 450 "java/lang/IllegalArgumentException" ["java/lang/RuntimeException", "java/lang/Exception"], w ∈ am_tg ∨ (am_dc w = true ∧ w ∈ tables_1 ∧ w.onTables = true) := by decide +kernel
theorem ht_X11_453 : ∀ w ∈ vx_at0 RX11 453 "java/util/NoSuchElementException" ["java/lang/RuntimeException", "java/lang/Exception"], w ∈ am_tg ∨ (am_dc w = true ∧ w ∈ tables_1 ∧ w.onTables = true) := by decide +kernel
theorem ht_X11_460 : ∀ w ∈ vx_at0 RX11 460 "java/lang/IndexOutOfBoundsException" ["java/lang/RuntimeException", "java/lang/Exception"], w ∈ am_tg ∨ (am_dc w = true ∧ w ∈ tables_1 ∧ w.onTables = true) := by decide +kernel
