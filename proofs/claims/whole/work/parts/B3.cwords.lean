/-! words and shapes for the constructors (by program: ctor.py) -/
theorem lk_obi : Cond.instanceMethod objectInit ∈ am_tg := am_t1 40 rfl rfl
theorem lk_obc : Cond.code objectInit ⟨#[0xb1]⟩ 1 none ∈ am_tg := am_t1 41 rfl rfl
theorem lk_ai : Cond.arrayClass FieldType.int ∈ am_tg := am_t1 75 rfl rfl
theorem lk_al : Cond.arrayClass FieldType.long ∈ am_tg := am_t2 150 rfl rfl
theorem lmo_X11_1 : Cond.methodLink RX11 1 objectInit ∈ am_tg := am_t1 39 rfl rfl
theorem lck_X11_7 : Cond.classLink RX11 7 RX1 ∈ am_tg := am_t1 42 rfl rfl
theorem lk_ins_X1 : Cond.instantiable RX1 14 ∈ am_tg := am_t1 43 rfl rfl
theorem lk_ini_X1 : Cond.initialized RX1 ∈ am_tg := am_t1 2 rfl rfl
theorem lmo_X1_3 : Cond.methodLink RX1 3 objectInit ∈ am_tg := am_t1 47 rfl rfl
theorem lck_X1_9 : Cond.classLink RX1 9 RX7 ∈ am_tg := am_t1 48 rfl rfl
theorem lck_X1_17 : Cond.classLink RX1 17 RX9 ∈ am_tg := am_t1 50 rfl rfl
theorem lck_X1_23 : Cond.classLink RX1 23 RX5 ∈ am_tg := am_t1 52 rfl rfl
theorem lf_X1_25 : Cond.fieldLink RX1 25 RX1 (TX1 2).2.1 (TX1 2).2.2.1 ∈ am_tg := am_t1 146 rfl rfl
theorem lf_X1_33 : Cond.fieldLink RX1 33 RX1 (TX1 4).2.1 (TX1 4).2.2.1 ∈ am_tg := am_t1 150 rfl rfl
theorem lk_ins_X5 : Cond.instantiable RX5 3 ∈ am_tg := am_t1 54 rfl rfl
theorem lk_ini_X5 : Cond.initialized RX5 ∈ am_tg := am_t1 3 rfl rfl
theorem lmo_X5_1 : Cond.methodLink RX5 1 objectInit ∈ am_tg := am_t1 58 rfl rfl
theorem lm_X1_36 : Cond.methodLink RX1 36 yX5_init ∈ am_tg := am_t1 55 rfl rfl
theorem lf_X1_37 : Cond.fieldLink RX1 37 RX1 (TX1 5).2.1 (TX1 5).2.2.1 ∈ am_tg := am_t1 153 rfl rfl
theorem lck_X1_41 : Cond.classLink RX1 41 RX6 ∈ am_tg := am_t1 76 rfl rfl
theorem lk_ins_X6 : Cond.instantiable RX6 6 ∈ am_tg := am_t1 77 rfl rfl
theorem lk_ini_X6 : Cond.initialized RX6 ∈ am_tg := am_t1 4 rfl rfl
theorem lmo_X6_3 : Cond.methodLink RX6 3 objectInit ∈ am_tg := am_t1 81 rfl rfl
theorem lm_X1_43 : Cond.methodLink RX1 43 yX6_init ∈ am_tg := am_t1 78 rfl rfl
theorem lf_X1_44 : Cond.fieldLink RX1 44 RX1 (TX1 6).2.1 (TX1 6).2.2.1 ∈ am_tg := am_t1 156 rfl rfl
theorem lf_X1_48 : Cond.fieldLink RX1 48 RX1 (TX1 11).2.1 (TX1 11).2.2.1 ∈ am_tg := am_t1 170 rfl rfl
theorem lf_X1_52 : Cond.fieldLink RX1 52 RX1 (TX1 12).2.1 (TX1 12).2.2.1 ∈ am_tg := am_t1 174 rfl rfl
theorem lf_X1_55 : Cond.fieldLink RX1 55 RX1 (TX1 13).2.1 (TX1 13).2.2.1 ∈ am_tg := am_t1 178 rfl rfl
theorem lk_ins_X7 : Cond.instantiable RX7 2 ∈ am_tg := am_t1 103 rfl rfl
theorem lk_ini_X7 : Cond.initialized RX7 ∈ am_tg := am_t1 5 rfl rfl
theorem lmo_X7_3 : Cond.methodLink RX7 3 objectInit ∈ am_tg := am_t1 107 rfl rfl
theorem lmm_X7_9 : Cond.methodLink RX7 9 Lib.Math.max.name ∈ am_tg := am_t1 108 rfl rfl
theorem lm_X1_58 : Cond.methodLink RX1 58 yX7_init ∈ am_tg := am_t1 104 rfl rfl
theorem lk_ins_X9 : Cond.instantiable RX9 3 ∈ am_tg := am_t1 123 rfl rfl
theorem lk_ini_X9 : Cond.initialized RX9 ∈ am_tg := am_t1 7 rfl rfl
theorem lmo_X9_3 : Cond.methodLink RX9 3 objectInit ∈ am_tg := am_t1 127 rfl rfl
theorem lm_X1_61 : Cond.methodLink RX1 61 yX9_init ∈ am_tg := am_t1 124 rfl rfl
theorem lm_X11_9 : Cond.methodLink RX11 9 yX1_init ∈ am_tg := am_t1 44 rfl rfl
theorem lck_X11_16 : Cond.classLink RX11 16 RX4 ∈ am_tg := am_t1 211 rfl rfl
theorem lk_ins_X4 : Cond.instantiable RX4 10 ∈ am_tg := am_t1 213 rfl rfl
theorem lk_ini_X4 : Cond.initialized RX4 ∈ am_tg := am_t1 8 rfl rfl
theorem lmo_X4_1 : Cond.methodLink RX4 1 objectInit ∈ am_tg := am_t1 217 rfl rfl
theorem lck_X4_7 : Cond.classLink RX4 7 RX5 ∈ am_tg := am_t1 218 rfl rfl
theorem lm_X4_9 : Cond.methodLink RX4 9 yX5_init ∈ am_tg := am_t1 219 rfl rfl
theorem lm_X11_22 : Cond.methodLink RX11 22 yX4_init ∈ am_tg := am_t1 214 rfl rfl
theorem lck_X11_23 : Cond.classLink RX11 23 RX8 ∈ am_tg := am_t2 11 rfl rfl
theorem lk_ins_X8 : Cond.instantiable RX8 8 ∈ am_tg := am_t2 12 rfl rfl
theorem lk_ini_X8 : Cond.initialized RX8 ∈ am_tg := am_t1 9 rfl rfl
theorem lmo_X8_3 : Cond.methodLink RX8 3 objectInit ∈ am_tg := am_t2 16 rfl rfl
theorem lm_X11_25 : Cond.methodLink RX11 25 yX8_init ∈ am_tg := am_t2 13 rfl rfl
theorem lck_X11_30 : Cond.classLink RX11 30 RX3 ∈ am_tg := am_t2 45 rfl rfl
theorem lk_ins_X3 : Cond.instantiable RX3 8 ∈ am_tg := am_t2 46 rfl rfl
theorem lk_ini_X3 : Cond.initialized RX3 ∈ am_tg := am_t1 10 rfl rfl
theorem lmo_X3_3 : Cond.methodLink RX3 3 objectInit ∈ am_tg := am_t2 50 rfl rfl
theorem lck_X3_9 : Cond.classLink RX3 9 RX7 ∈ am_tg := am_t2 51 rfl rfl
theorem lm_X3_11 : Cond.methodLink RX3 11 yX7_init ∈ am_tg := am_t2 52 rfl rfl
theorem lck_X3_23 : Cond.classLink RX3 23 RX9 ∈ am_tg := am_t2 53 rfl rfl
theorem lm_X3_25 : Cond.methodLink RX3 25 yX9_init ∈ am_tg := am_t2 54 rfl rfl
theorem lm_X11_32 : Cond.methodLink RX11 32 yX3_init ∈ am_tg := am_t2 47 rfl rfl
theorem lck_X11_43 : Cond.classLink RX11 43 RX7 ∈ am_tg := am_t2 84 rfl rfl
theorem lm_X11_45 : Cond.methodLink RX11 45 yX7_init ∈ am_tg := am_t2 85 rfl rfl
theorem lck_X11_52 : Cond.classLink RX11 52 RX9 ∈ am_tg := am_t2 86 rfl rfl
theorem lm_X11_54 : Cond.methodLink RX11 54 yX9_init ∈ am_tg := am_t2 87 rfl rfl
theorem lck_X11_59 : Cond.classLink RX11 59 RX0 ∈ am_tg := am_t2 88 rfl rfl
theorem lk_ins_X0 : Cond.instantiable RX0 6 ∈ am_tg := am_t2 89 rfl rfl
theorem lk_ini_X0 : Cond.initialized RX0 ∈ am_tg := am_t1 11 rfl rfl
theorem lmo_X0_3 : Cond.methodLink RX0 3 objectInit ∈ am_tg := am_t2 93 rfl rfl
theorem lm_X11_61 : Cond.methodLink RX11 61 yX0_init ∈ am_tg := am_t2 90 rfl rfl
theorem lck_X11_69 : Cond.classLink RX11 69 RX2 ∈ am_tg := am_t2 118 rfl rfl
theorem lk_ins_X2 : Cond.instantiable RX2 2 ∈ am_tg := am_t2 119 rfl rfl
theorem lk_ini_X2 : Cond.initialized RX2 ∈ am_tg := am_t1 12 rfl rfl
theorem lmo_X2_3 : Cond.methodLink RX2 3 objectInit ∈ am_tg := am_t2 123 rfl rfl
theorem lm_X11_71 : Cond.methodLink RX11 71 yX2_init ∈ am_tg := am_t2 120 rfl rfl
theorem lck_X11_76 : Cond.classLink RX11 76 RX10 ∈ am_tg := am_t2 132 rfl rfl
theorem lk_ins_X10 : Cond.instantiable RX10 3 ∈ am_tg := am_t2 133 rfl rfl
theorem lk_ini_X10 : Cond.initialized RX10 ∈ am_tg := am_t1 13 rfl rfl
theorem lmo_X10_3 : Cond.methodLink RX10 3 objectInit ∈ am_tg := am_t2 137 rfl rfl
theorem lm_X11_78 : Cond.methodLink RX11 78 yX10_init ∈ am_tg := am_t2 134 rfl rfl
theorem lmo_X12_1 : Cond.methodLink RX12 1 objectInit ∈ am_tg := am_t8 124 rfl rfl
theorem lck_X12_20 : Cond.classLink RX12 20 "[[I" ∈ am_tg := am_t8 125 rfl rfl
theorem dv_X1 : ∀ j, j < 14 → defaultValue (am_ty 1 j) = if (am_ty 1 j).isReference = true then .null else .int 0 := by decide +kernel
theorem dv_X5 : ∀ j, j < 3 → defaultValue (am_ty 5 j) = if (am_ty 5 j).isReference = true then .null else .int 0 := by decide +kernel
theorem dv_X6 : ∀ j, j < 6 → defaultValue (am_ty 6 j) = if (am_ty 6 j).isReference = true then .null else .int 0 := by decide +kernel
theorem dv_X7 : ∀ j, j < 2 → defaultValue (am_ty 7 j) = if (am_ty 7 j).isReference = true then .null else .int 0 := by decide +kernel
theorem dv_X9 : ∀ j, j < 3 → defaultValue (am_ty 9 j) = if (am_ty 9 j).isReference = true then .null else .int 0 := by decide +kernel
theorem dv_X4 : ∀ j, j < 10 → defaultValue (am_ty 4 j) = if (am_ty 4 j).isReference = true then .null else .int 0 := by decide +kernel
theorem dv_X8 : ∀ j, j < 8 → defaultValue (am_ty 8 j) = if (am_ty 8 j).isReference = true then .null else .int 0 := by decide +kernel
theorem dv_X3 : ∀ j, j < 8 → defaultValue (am_ty 3 j) = if (am_ty 3 j).isReference = true then .null else .int 0 := by decide +kernel
theorem dv_X0 : ∀ j, j < 6 → defaultValue (am_ty 0 j) = if (am_ty 0 j).isReference = true then .null else .int 0 := by decide +kernel
theorem dv_X2 : ∀ j, j < 2 → defaultValue (am_ty 2 j) = if (am_ty 2 j).isReference = true then .null else .int 0 := by decide +kernel
theorem dv_X10 : ∀ j, j < 3 → defaultValue (am_ty 10 j) = if (am_ty 10 j).isReference = true then .null else .int 0 := by decide +kernel
theorem sh_30 : am_sh am_G0 30 = some (7, 2) := by decide +kernel
theorem sh_31 : am_sh am_G0 31 = some (20, 600) := by decide +kernel
theorem sh_32 : am_sh am_G0 32 = some (7, 2) := by decide +kernel
theorem sh_33 : am_sh am_G0 33 = some (20, 600) := by decide +kernel
theorem sh_34 : am_sh am_G0 34 = some (7, 2) := by decide +kernel
theorem sh_35 : am_sh am_G0 35 = some (20, 600) := by decide +kernel
theorem sh_36 : am_sh am_G0 36 = some (7, 2) := by decide +kernel
theorem sh_37 : am_sh am_G0 37 = some (20, 600) := by decide +kernel
theorem sh_38 : am_sh am_G0 38 = some (7, 2) := by decide +kernel
theorem sh_39 : am_sh am_G0 39 = some (20, 600) := by decide +kernel
theorem sh_40 : am_sh am_G0 40 = some (9, 3) := by decide +kernel
theorem sh_41 : am_sh am_G0 41 = some (20, 12) := by decide +kernel
theorem sh_42 : am_sh am_G0 42 = some (20, 12) := by decide +kernel
theorem sh_43 : am_sh am_G0 43 = some (9, 3) := by decide +kernel
theorem sh_44 : am_sh am_G0 44 = some (20, 12) := by decide +kernel
theorem sh_45 : am_sh am_G0 45 = some (20, 12) := by decide +kernel
theorem sh_46 : am_sh am_G0 46 = some (9, 3) := by decide +kernel
theorem sh_47 : am_sh am_G0 47 = some (20, 12) := by decide +kernel
theorem sh_48 : am_sh am_G0 48 = some (20, 12) := by decide +kernel
theorem sh_49 : am_sh am_G0 49 = some (9, 3) := by decide +kernel
theorem sh_50 : am_sh am_G0 50 = some (20, 12) := by decide +kernel
theorem sh_51 : am_sh am_G0 51 = some (20, 12) := by decide +kernel
theorem sh_52 : am_sh am_G0 52 = some (9, 3) := by decide +kernel
theorem sh_53 : am_sh am_G0 53 = some (20, 12) := by decide +kernel
theorem sh_54 : am_sh am_G0 54 = some (20, 12) := by decide +kernel
theorem sh_55 : am_sh am_G0 55 = some (5, 3) := by decide +kernel
theorem sh_56 : am_sh am_G0 56 = some (5, 3) := by decide +kernel
theorem sh_57 : am_sh am_G0 57 = some (5, 3) := by decide +kernel
theorem sh_58 : am_sh am_G0 58 = some (5, 3) := by decide +kernel
theorem sh_60 : am_sh am_G0 60 = some (4, 10) := by decide +kernel
theorem sh_61 : am_sh am_G0 61 = some (5, 3) := by decide +kernel
theorem sh_62 : am_sh am_G0 62 = some (20, 4) := by decide +kernel
theorem sh_63 : am_sh am_G0 63 = some (4, 10) := by decide +kernel
theorem sh_64 : am_sh am_G0 64 = some (5, 3) := by decide +kernel
theorem sh_65 : am_sh am_G0 65 = some (20, 4) := by decide +kernel
theorem sh_66 : am_sh am_G0 66 = some (4, 10) := by decide +kernel
theorem sh_67 : am_sh am_G0 67 = some (5, 3) := by decide +kernel
theorem sh_68 : am_sh am_G0 68 = some (20, 4) := by decide +kernel
theorem sh_72 : am_sh am_G0 72 = some (7, 2) := by decide +kernel
theorem sh_73 : am_sh am_G0 73 = some (20, 1200) := by decide +kernel
theorem sh_75 : am_sh am_G0 75 = some (20, 1200) := by decide +kernel
theorem sh_76 : am_sh am_G0 76 = some (9, 3) := by decide +kernel
theorem sh_77 : am_sh am_G0 77 = some (20, 12) := by decide +kernel
theorem sh_78 : am_sh am_G0 78 = some (20, 12) := by decide +kernel
theorem sh_79 : am_sh am_G0 79 = some (20, 600) := by decide +kernel
theorem sh_80 : am_sh am_G0 80 = some (20, 600) := by decide +kernel
theorem sh_82 : am_sh am_G0 82 = some (7, 2) := by decide +kernel
theorem sh_83 : am_sh am_G0 83 = some (20, 1200) := by decide +kernel
theorem sh_85 : am_sh am_G0 85 = some (20, 1200) := by decide +kernel
theorem sh_86 : am_sh am_G0 86 = some (9, 3) := by decide +kernel
theorem sh_87 : am_sh am_G0 87 = some (20, 12) := by decide +kernel
theorem sh_88 : am_sh am_G0 88 = some (20, 12) := by decide +kernel
theorem sh_89 : am_sh am_G0 89 = some (20, 600) := by decide +kernel
theorem sh_90 : am_sh am_G0 90 = some (20, 600) := by decide +kernel
theorem sh_92 : am_sh am_G0 92 = some (7, 2) := by decide +kernel
theorem sh_93 : am_sh am_G0 93 = some (20, 1200) := by decide +kernel
theorem sh_95 : am_sh am_G0 95 = some (20, 1200) := by decide +kernel
theorem sh_96 : am_sh am_G0 96 = some (9, 3) := by decide +kernel
theorem sh_97 : am_sh am_G0 97 = some (20, 12) := by decide +kernel
theorem sh_98 : am_sh am_G0 98 = some (20, 12) := by decide +kernel
theorem sh_99 : am_sh am_G0 99 = some (20, 600) := by decide +kernel
theorem sh_100 : am_sh am_G0 100 = some (20, 600) := by decide +kernel
theorem sh_102 : am_sh am_G0 102 = some (20, 600) := by decide +kernel
theorem sh_104 : am_sh am_G0 104 = some (20, 12) := by decide +kernel
theorem sh_105 : am_sh am_G0 105 = some (20, 12) := by decide +kernel
theorem sh_107 : am_sh am_G0 107 = some (20, 600) := by decide +kernel
theorem sh_108 : am_sh am_G0 108 = some (20, 200) := by decide +kernel
theorem sh_110 : am_sh am_G0 110 = some (20, 600) := by decide +kernel
theorem sh_111 : am_sh am_G0 111 = some (20, 200) := by decide +kernel
theorem shm_120 : (am_S0.drop (120 - 16)).take (12 + 1) = (26, 12) :: List.replicate 12 (20, 2) := by decide +kernel
theorem shm_133 : (am_S0.drop (133 - 16)).take (5 + 1) = (26, 5) :: List.replicate 5 (20, 600) := by decide +kernel
theorem shm_140 : (am_S0.drop (140 - 16)).take (60 + 1) = (26, 60) :: List.replicate 60 (20, 2) := by decide +kernel
theorem shm_205 : (am_S0.drop (205 - 16)).take (4 + 1) = (26, 4) :: List.replicate 4 (20, 3) := by decide +kernel
theorem shm_210 : (am_S0.drop (210 - 16)).take (10 + 1) = (26, 10) :: List.replicate 10 (20, 4) := by decide +kernel
theorem shm_224 : (am_S0.drop (224 - 16)).take (1200 + 1) = (26, 1200) :: List.replicate 1200 (20, 3) := by decide +kernel
theorem shm_1428 : (am_S0.drop (1428 - 16)).take (1200 + 1) = (26, 1200) :: List.replicate 1200 (20, 3) := by decide +kernel
theorem shm_2633 : (am_S0.drop (2633 - 16)).take (3 + 1) = (26, 3) :: List.replicate 3 (20, 3400) := by decide +kernel
