/-! the law: words and its small methods (by program: lawgen.py) -/
theorem tmL_sound : am_all mL_sound.2.1 ttL_sound = true := tkL_sound
theorem lmL_7 : Cond.methodLink RL 7 yX11_sound ∈ am_tg := am_t4 184 rfl rfl
theorem lcL_IAE : Cond.classLink RL 13 "java/lang/IllegalArgumentException" ∈ am_tg := am_t4 183 rfl rfl
theorem lcs_IAE : Cond.castable "java/lang/IllegalArgumentException" "java/lang/IllegalArgumentException" ∈ tables_1 := am_n3 89 rfl
theorem tmL_map : am_all mL_map.2.1 ttL_map = true := tkL_map
theorem lmL_15 : Cond.methodLink RL 15 yX11_map ∈ am_tg := am_t5 95 rfl rfl
theorem tmL_size : am_all mL_size.2.1 ttL_size = true := tkL_size
theorem lmL_18 : Cond.methodLink RL 18 yX11_size ∈ am_tg := am_t5 140 rfl rfl
theorem lcL_NSE : Cond.classLink RL 21 "java/util/NoSuchElementException" ∈ am_tg := am_t5 139 rfl rfl
theorem lcs_NSE : Cond.castable "java/util/NoSuchElementException" "java/util/NoSuchElementException" ∈ tables_1 := am_n5 150 rfl
theorem tmL_sample : am_all mL_sample.2.1 ttL_sample = true := tkL_sample
theorem lmL_23 : Cond.methodLink RL 23 yX11_sample ∈ am_tg := am_t5 166 rfl rfl
theorem tmL_told : am_all mL_told.2.1 ttL_told = true := tkL_told
theorem lmL_27 : Cond.methodLink RL 27 yX11_told ∈ am_tg := am_t5 174 rfl rfl
theorem lcL_IOB : Cond.classLink RL 30 "java/lang/IndexOutOfBoundsException" ∈ am_tg := am_t5 173 rfl rfl
theorem lcs_IOB : Cond.castable "java/lang/IndexOutOfBoundsException" "java/lang/IndexOutOfBoundsException" ∈ tables_1 := am_n5 184 rfl
theorem lnc_IAE_IOB : Cond.not (.castable "java/lang/IllegalArgumentException" "java/lang/IndexOutOfBoundsException") ∈ flatC narrow_1 := by decide +kernel
theorem tmL_place : am_all mL_place.2.1 ttL_place = true := tkL_place
theorem lmL_32 : Cond.methodLink RL 32 yX11_place ∈ am_tg := am_t5 202 rfl rfl
theorem tmL_where : am_all mL_where.2.1 ttL_where = true := tkL_where
theorem lmL_35 : Cond.methodLink RL 35 yX11_where ∈ am_tg := am_t5 214 rfl rfl
theorem tmL_pieces : am_all mL_pieces.2.1 ttL_pieces = true := tkL_pieces
theorem lmL_38 : Cond.methodLink RL 38 yX11_pieces ∈ am_tg := am_t5 227 rfl rfl
theorem tmL_draw : am_all mL_draw.2.1 ttL_draw = true := tkL_draw
theorem lmL_42 : Cond.methodLink RL 42 yX11_draw ∈ am_tg := am_t6 0 rfl rfl
theorem lnc_IOB_NSE : Cond.not (.castable "java/lang/IndexOutOfBoundsException" "java/util/NoSuchElementException") ∈ flatC narrow_1 := by decide +kernel
theorem lnc_ISE_IOB : Cond.not (.castable "java/lang/IllegalStateException" "java/lang/IndexOutOfBoundsException") ∈ flatC narrow_1 := by decide +kernel
theorem lnc_ISE_NSE : Cond.not (.castable "java/lang/IllegalStateException" "java/util/NoSuchElementException") ∈ flatC narrow_1 := by decide +kernel
theorem lcL_ISE : Cond.classLink RL 45 "java/lang/IllegalStateException" ∈ am_tg := am_t5 239 rfl rfl
theorem lcs_ISE : Cond.castable "java/lang/IllegalStateException" "java/lang/IllegalStateException" ∈ tables_1 := am_n6 9 rfl
theorem tmL_sharp : am_all mL_sharp.2.1 ttL_sharp = true := tkL_sharp
theorem lmL_47 : Cond.methodLink RL 47 yX11_sharp ∈ am_tg := am_t6 63 rfl rfl
theorem tmL_seam : am_all mL_seam.2.1 ttL_seam = true := tkL_seam
theorem lmL_50 : Cond.methodLink RL 50 yX11_seam ∈ am_tg := am_t6 79 rfl rfl
theorem tmL_blowing : am_all mL_blowing.2.1 ttL_blowing = true := tkL_blowing
theorem lmL_53 : Cond.methodLink RL 53 yX11_blowing ∈ am_tg := am_t6 90 rfl rfl
theorem tmL_blow : am_all mL_blow.2.1 ttL_blow = true := tkL_blow
theorem lmL_56 : Cond.methodLink RL 56 yX11_blow ∈ am_tg := am_t6 97 rfl rfl
theorem tmL_harm : am_all mL_harm.2.1 ttL_harm = true := tkL_harm
theorem lmL_59 : Cond.methodLink RL 59 yX11_harm ∈ am_tg := am_t6 105 rfl rfl
theorem tmL_weigh : am_all mL_weigh.2.1 ttL_weigh = true := tkL_weigh
theorem lmL_62 : Cond.methodLink RL 62 yX11_weigh ∈ am_tg := am_t6 145 rfl rfl
theorem tmL_way : am_all mL_way.2.1 ttL_way = true := tkL_way
theorem lmL_65 : Cond.methodLink RL 65 yX11_way ∈ am_tg := am_t6 152 rfl rfl
theorem tmL_best : am_all mL_best.2.1 ttL_best = true := tkL_best
theorem lmL_68 : Cond.methodLink RL 68 yX11_best ∈ am_tg := am_t6 159 rfl rfl
theorem tmL_bestOf : am_all mL_bestOf.2.1 ttL_bestOf = true := tkL_bestOf
theorem lmL_71 : Cond.methodLink RL 71 yX11_bestOf ∈ am_tg := am_t6 170 rfl rfl
theorem lnc_IAE_NSE : Cond.not (.castable "java/lang/IllegalArgumentException" "java/util/NoSuchElementException") ∈ flatC narrow_1 := by decide +kernel
theorem lnc_ISE_IAE : Cond.not (.castable "java/lang/IllegalStateException" "java/lang/IllegalArgumentException") ∈ flatC narrow_1 := by decide +kernel
theorem tmL_part : am_all mL_part.2.1 ttL_part = true := tkL_part
theorem lmL_74 : Cond.methodLink RL 74 yX11_part ∈ am_tg := am_t6 178 rfl rfl
theorem tmL_planned : am_all mL_planned.2.1 ttL_planned = true := tkL_planned
theorem lmL_78 : Cond.methodLink RL 78 yX11_planned ∈ am_tg := am_t6 189 rfl rfl
theorem tmL_planMap : am_all mL_planMap.2.1 ttL_planMap = true := tkL_planMap
theorem lmL_81 : Cond.methodLink RL 81 yX11_planMap ∈ am_tg := am_t6 210 rfl rfl
theorem tmL_pitch : am_all mL_pitch.2.1 ttL_pitch = true := tkL_pitch
theorem lmL_84 : Cond.methodLink RL 84 yX11_pitch ∈ am_tg := am_t6 227 rfl rfl
theorem tmL_turned : am_all mL_turned.2.1 ttL_turned = true := tkL_turned
theorem lmL_87 : Cond.methodLink RL 87 yX11_turned ∈ am_tg := am_t7 3 rfl rfl
theorem tmL_sing : am_all mL_sing.2.1 ttL_sing = true := tkL_sing
theorem lmL_91 : Cond.methodLink RL 91 yX11_sing ∈ am_tg := am_t7 28 rfl rfl
theorem tmL_crossing : am_all mL_crossing.2.1 ttL_crossing = true := tkL_crossing
theorem lmL_94 : Cond.methodLink RL 94 yX11_crossing ∈ am_tg := am_t7 44 rfl rfl
theorem tmL_period : am_all mL_period.2.1 ttL_period = true := tkL_period
theorem lmL_97 : Cond.methodLink RL 97 yX11_period ∈ am_tg := am_t7 60 rfl rfl
theorem tmL_hum : am_all mL_hum.2.1 ttL_hum = true := tkL_hum
theorem lmL_100 : Cond.methodLink RL 100 yX11_hum ∈ am_tg := am_t7 82 rfl rfl
theorem tmL_meant : am_all mL_meant.2.1 ttL_meant = true := tkL_meant
theorem lmL_103 : Cond.methodLink RL 103 yX11_meant ∈ am_tg := am_t7 92 rfl rfl
theorem tmL_undo : am_all mL_undo.2.1 ttL_undo = true := tkL_undo
theorem lmL_106 : Cond.methodLink RL 106 yX11_undo ∈ am_tg := am_t7 109 rfl rfl
theorem tmL_wobble : am_all mL_wobble.2.1 ttL_wobble = true := tkL_wobble
theorem lmL_109 : Cond.methodLink RL 109 yX11_wobble ∈ am_tg := am_t7 119 rfl rfl
theorem tmL_beat : am_all mL_beat.2.1 ttL_beat = true := tkL_beat
theorem lmL_112 : Cond.methodLink RL 112 yX11_beat ∈ am_tg := am_t7 141 rfl rfl
theorem tmL_onto : am_all mL_onto.2.1 ttL_onto = true := tkL_onto
theorem lmL_115 : Cond.methodLink RL 115 yX11_onto ∈ am_tg := am_t7 174 rfl rfl
theorem tmL_loop : am_all mL_loop.2.1 ttL_loop = true := tkL_loop
theorem lmL_118 : Cond.methodLink RL 118 yX11_loop ∈ am_tg := am_t7 200 rfl rfl
theorem tmL_join : am_all mL_join.2.1 ttL_join = true := tkL_join
theorem lmL_121 : Cond.methodLink RL 121 yX11_join ∈ am_tg := am_t7 212 rfl rfl
theorem tmL_shift : am_all mL_shift.2.1 ttL_shift = true := tkL_shift
theorem lmL_124 : Cond.methodLink RL 124 yX11_shift ∈ am_tg := am_t7 230 rfl rfl
theorem tmL_colour : am_all mL_colour.2.1 ttL_colour = true := tkL_colour
theorem lmL_127 : Cond.methodLink RL 127 yX11_colour ∈ am_tg := am_t8 1 rfl rfl
theorem tmL_peak : am_all mL_peak.2.1 ttL_peak = true := tkL_peak
theorem lmL_130 : Cond.methodLink RL 130 yX11_peak ∈ am_tg := am_t8 10 rfl rfl
theorem tmL_lock : am_all mL_lock.2.1 ttL_lock = true := tkL_lock
theorem lmL_133 : Cond.methodLink RL 133 yX11_lock ∈ am_tg := am_t8 39 rfl rfl
theorem tmL_steady : am_all mL_steady.2.1 ttL_steady = true := tkL_steady
theorem lmL_136 : Cond.methodLink RL 136 yX11_steady ∈ am_tg := am_t8 51 rfl rfl
theorem tmL_film : am_all mL_film.2.1 ttL_film = true := tkL_film
theorem lmL_139 : Cond.methodLink RL 139 yX11_film ∈ am_tg := am_t8 71 rfl rfl
theorem tmL_live : am_all mL_live.2.1 ttL_live = true := tkL_live
theorem lmL_142 : Cond.methodLink RL 142 yX11_live ∈ am_tg := am_t8 78 rfl rfl
theorem tmL_lag : am_all mL_lag.2.1 ttL_lag = true := tkL_lag
theorem lmL_146 : Cond.methodLink RL 146 yX11_lag ∈ am_tg := am_t8 91 rfl rfl
theorem tmL_lags : am_all mL_lags.2.1 ttL_lags = true := tkL_lags
theorem lmL_149 : Cond.methodLink RL 149 yX11_lags ∈ am_tg := am_t8 104 rfl rfl
theorem tmL_lost : am_all mL_lost.2.1 ttL_lost = true := tkL_lost
theorem lmL_152 : Cond.methodLink RL 152 yX11_lost ∈ am_tg := am_t8 111 rfl rfl
def mL_law : am_M := (yL_law, cL_law, 8, some .boolean, [])
theorem tmL_law_0 : am_all mL_law.2.1 ttL_law_0 = true := tkL_law_0
theorem tmL_law_1 : am_all mL_law.2.1 ttL_law_1 = true := tkL_law_1
theorem tmL_law_2 : am_all mL_law.2.1 ttL_law_2 = true := tkL_law_2
theorem tmL_law_3 : am_all mL_law.2.1 ttL_law_3 = true := tkL_law_3
theorem tmL_law_4 : am_all mL_law.2.1 ttL_law_4 = true := tkL_law_4
theorem tmL_law_5 : am_all mL_law.2.1 ttL_law_5 = true := tkL_law_5
theorem tmL_law_6 : am_all mL_law.2.1 ttL_law_6 = true := tkL_law_6
theorem tmL_law_7 : am_all mL_law.2.1 ttL_law_7 = true := tkL_law_7
theorem tmL_law_8 : am_all mL_law.2.1 ttL_law_8 = true := tkL_law_8
theorem tmL_law_9 : am_all mL_law.2.1 ttL_law_9 = true := tkL_law_9
theorem tmL_law_10 : am_all mL_law.2.1 ttL_law_10 = true := tkL_law_10
theorem tmL_law_11 : am_all mL_law.2.1 ttL_law_11 = true := tkL_law_11
theorem tmL_law_12 : am_all mL_law.2.1 ttL_law_12 = true := tkL_law_12
theorem tmL_law_13 : am_all mL_law.2.1 ttL_law_13 = true := tkL_law_13
theorem tmL_law_14 : am_all mL_law.2.1 ttL_law_14 = true := tkL_law_14
theorem tmL_law_15 : am_all mL_law.2.1 ttL_law_15 = true := tkL_law_15
theorem tmL_law_16 : am_all mL_law.2.1 ttL_law_16 = true := tkL_law_16
theorem tmL_law_17 : am_all mL_law.2.1 ttL_law_17 = true := tkL_law_17
theorem tmL_law_18 : am_all mL_law.2.1 ttL_law_18 = true := tkL_law_18
theorem tmL_law_19 : am_all mL_law.2.1 ttL_law_19 = true := tkL_law_19
theorem tmL_law_20 : am_all mL_law.2.1 ttL_law_20 = true := tkL_law_20
theorem tmL_law_21 : am_all mL_law.2.1 ttL_law_21 = true := tkL_law_21
theorem tmL_law_22 : am_all mL_law.2.1 ttL_law_22 = true := tkL_law_22
theorem tmL_law_23 : am_all mL_law.2.1 ttL_law_23 = true := tkL_law_23
theorem tmL_law_24 : am_all mL_law.2.1 ttL_law_24 = true := tkL_law_24
theorem tmL_law_25 : am_all mL_law.2.1 ttL_law_25 = true := tkL_law_25
theorem tmL_law_26 : am_all mL_law.2.1 ttL_law_26 = true := tkL_law_26
theorem tmL_law_27 : am_all mL_law.2.1 ttL_law_27 = true := tkL_law_27
theorem tmL_law_28 : am_all mL_law.2.1 ttL_law_28 = true := tkL_law_28
theorem tmL_law_29 : am_all mL_law.2.1 ttL_law_29 = true := tkL_law_29
theorem tmL_law_30 : am_all mL_law.2.1 ttL_law_30 = true := tkL_law_30
theorem tmL_law_31 : am_all mL_law.2.1 ttL_law_31 = true := tkL_law_31
theorem tmL_law_32 : am_all mL_law.2.1 ttL_law_32 = true := tkL_law_32
theorem tmL_law_33 : am_all mL_law.2.1 ttL_law_33 = true := tkL_law_33
theorem tmL_law_34 : am_all mL_law.2.1 ttL_law_34 = true := tkL_law_34
theorem tmL_law_35 : am_all mL_law.2.1 ttL_law_35 = true := tkL_law_35
theorem tmL_law_36 : am_all mL_law.2.1 ttL_law_36 = true := tkL_law_36
theorem tmL_law_37 : am_all mL_law.2.1 ttL_law_37 = true := tkL_law_37
theorem tmL_law_38 : am_all mL_law.2.1 ttL_law_38 = true := tkL_law_38
theorem tmL_law_39 : am_all mL_law.2.1 ttL_law_39 = true := tkL_law_39
theorem lmL_159 : Cond.methodLink RL 159 yX11_feed ∈ am_tg := am_t2 194 rfl rfl
theorem lmL_162 : Cond.methodLink RL 162 yX12_feed ∈ am_tg := am_t9 63 rfl rfl
theorem lmL_163 : Cond.methodLink RL 163 yL_sound ∈ am_tg := am_t4 180 rfl rfl
theorem lmL_168 : Cond.methodLink RL 168 yX12_sound ∈ am_tg := am_t9 67 rfl rfl
theorem lmL_169 : Cond.methodLink RL 169 yX12_thrown ∈ am_tg := am_t9 59 rfl rfl
theorem lmL_173 : Cond.methodLink RL 173 yL_map ∈ am_tg := am_t5 92 rfl rfl
theorem lmL_175 : Cond.methodLink RL 175 yX12_map ∈ am_tg := am_t9 144 rfl rfl
theorem lmL_176 : Cond.methodLink RL 176 yX11_fault ∈ am_tg := am_t2 202 rfl rfl
theorem lmL_179 : Cond.methodLink RL 179 yX12_fault ∈ am_tg := am_t9 156 rfl rfl
theorem lmL_180 : Cond.methodLink RL 180 yL_size ∈ am_tg := am_t5 136 rfl rfl
theorem lmL_182 : Cond.methodLink RL 182 yX12_size ∈ am_tg := am_t9 160 rfl rfl
theorem lmL_183 : Cond.methodLink RL 183 yL_sample ∈ am_tg := am_t5 163 rfl rfl
theorem lmL_186 : Cond.methodLink RL 186 yX12_sample ∈ am_tg := am_t9 168 rfl rfl
theorem lmL_187 : Cond.methodLink RL 187 yL_told ∈ am_tg := am_t5 170 rfl rfl
theorem lmL_189 : Cond.methodLink RL 189 yX12_told ∈ am_tg := am_t9 172 rfl rfl
theorem lmL_190 : Cond.methodLink RL 190 yL_place ∈ am_tg := am_t5 199 rfl rfl
theorem lmL_192 : Cond.methodLink RL 192 yX12_place ∈ am_tg := am_t9 188 rfl rfl
theorem lmL_193 : Cond.methodLink RL 193 yL_where ∈ am_tg := am_t5 211 rfl rfl
theorem lmL_195 : Cond.methodLink RL 195 yX12_where ∈ am_tg := am_t9 212 rfl rfl
theorem lmL_196 : Cond.methodLink RL 196 yL_pieces ∈ am_tg := am_t5 224 rfl rfl
theorem lmL_199 : Cond.methodLink RL 199 yX12_pieces ∈ am_tg := am_t9 220 rfl rfl
theorem lmL_200 : Cond.methodLink RL 200 yL_draw ∈ am_tg := am_t5 236 rfl rfl
theorem lmL_202 : Cond.methodLink RL 202 yX12_draw ∈ am_tg := am_t9 227 rfl rfl
theorem lmL_203 : Cond.methodLink RL 203 yL_sharp ∈ am_tg := am_t6 60 rfl rfl
theorem lmL_205 : Cond.methodLink RL 205 yX12_sharp ∈ am_tg := am_t10 22 rfl rfl
theorem lmL_206 : Cond.methodLink RL 206 yX11_length ∈ am_tg := am_t2 206 rfl rfl
theorem lmL_209 : Cond.methodLink RL 209 yX12_length ∈ am_tg := am_t10 33 rfl rfl
theorem lmL_210 : Cond.methodLink RL 210 yX11_result ∈ am_tg := am_t2 210 rfl rfl
theorem lmL_213 : Cond.methodLink RL 213 yX12_result ∈ am_tg := am_t10 37 rfl rfl
theorem lmL_214 : Cond.methodLink RL 214 yL_seam ∈ am_tg := am_t6 76 rfl rfl
theorem lmL_216 : Cond.methodLink RL 216 yX12_seam ∈ am_tg := am_t10 41 rfl rfl
theorem lmL_217 : Cond.methodLink RL 217 yX11_keep ∈ am_tg := am_t2 222 rfl rfl
theorem lmL_220 : Cond.methodLink RL 220 yX12_keep ∈ am_tg := am_t10 45 rfl rfl
theorem lmL_221 : Cond.methodLink RL 221 yL_blowing ∈ am_tg := am_t6 87 rfl rfl
theorem lmL_223 : Cond.methodLink RL 223 yX12_blowing ∈ am_tg := am_t10 49 rfl rfl
theorem lmL_224 : Cond.methodLink RL 224 yL_blow ∈ am_tg := am_t6 94 rfl rfl
theorem lmL_226 : Cond.methodLink RL 226 yX12_blow ∈ am_tg := am_t10 53 rfl rfl
theorem lmL_227 : Cond.methodLink RL 227 yX11_blows ∈ am_tg := am_t3 12 rfl rfl
theorem lmL_230 : Cond.methodLink RL 230 yX12_blows ∈ am_tg := am_t10 57 rfl rfl
theorem lmL_231 : Cond.methodLink RL 231 yL_harm ∈ am_tg := am_t6 102 rfl rfl
theorem lmL_233 : Cond.methodLink RL 233 yX12_harm ∈ am_tg := am_t10 61 rfl rfl
theorem lmL_234 : Cond.methodLink RL 234 yL_weigh ∈ am_tg := am_t6 142 rfl rfl
theorem lmL_236 : Cond.methodLink RL 236 yX12_weigh ∈ am_tg := am_t10 87 rfl rfl
theorem lmL_237 : Cond.methodLink RL 237 yL_way ∈ am_tg := am_t6 149 rfl rfl
theorem lmL_239 : Cond.methodLink RL 239 yX12_way ∈ am_tg := am_t10 91 rfl rfl
theorem lmL_240 : Cond.methodLink RL 240 yL_best ∈ am_tg := am_t6 156 rfl rfl
theorem lmL_242 : Cond.methodLink RL 242 yX12_best ∈ am_tg := am_t10 95 rfl rfl
theorem lmL_243 : Cond.methodLink RL 243 yL_bestOf ∈ am_tg := am_t6 167 rfl rfl
theorem lmL_245 : Cond.methodLink RL 245 yX12_bestOf ∈ am_tg := am_t10 111 rfl rfl
theorem lmL_246 : Cond.methodLink RL 246 yL_part ∈ am_tg := am_t6 175 rfl rfl
theorem lmL_249 : Cond.methodLink RL 249 yX12_part ∈ am_tg := am_t10 115 rfl rfl
theorem lmL_250 : Cond.methodLink RL 250 yL_planned ∈ am_tg := am_t6 186 rfl rfl
theorem lmL_252 : Cond.methodLink RL 252 yX12_planned ∈ am_tg := am_t10 119 rfl rfl
theorem lmL_253 : Cond.methodLink RL 253 yL_planMap ∈ am_tg := am_t6 207 rfl rfl
theorem lmL_255 : Cond.methodLink RL 255 yX12_planMap ∈ am_tg := am_t10 127 rfl rfl
theorem lmL_256 : Cond.methodLink RL 256 yL_pitch ∈ am_tg := am_t6 224 rfl rfl
theorem lmL_258 : Cond.methodLink RL 258 yX12_pitch ∈ am_tg := am_t10 131 rfl rfl
theorem lmL_259 : Cond.methodLink RL 259 yL_turned ∈ am_tg := am_t7 0 rfl rfl
theorem lmL_262 : Cond.methodLink RL 262 yX12_turned ∈ am_tg := am_t10 139 rfl rfl
theorem lmL_263 : Cond.methodLink RL 263 yL_sing ∈ am_tg := am_t7 25 rfl rfl
theorem lmL_265 : Cond.methodLink RL 265 yX12_sing ∈ am_tg := am_t10 154 rfl rfl
theorem lmL_266 : Cond.methodLink RL 266 yX11_jump ∈ am_tg := am_t3 34 rfl rfl
theorem lmL_269 : Cond.methodLink RL 269 yX12_jump ∈ am_tg := am_t10 161 rfl rfl
theorem lmL_270 : Cond.methodLink RL 270 yL_crossing ∈ am_tg := am_t7 41 rfl rfl
theorem lmL_272 : Cond.methodLink RL 272 yX12_crossing ∈ am_tg := am_t10 165 rfl rfl
theorem lmL_273 : Cond.methodLink RL 273 yL_period ∈ am_tg := am_t7 57 rfl rfl
theorem lmL_275 : Cond.methodLink RL 275 yX12_period ∈ am_tg := am_t10 173 rfl rfl
theorem lmL_276 : Cond.methodLink RL 276 yL_hum ∈ am_tg := am_t7 79 rfl rfl
theorem lmL_278 : Cond.methodLink RL 278 yX12_hum ∈ am_tg := am_t10 181 rfl rfl
theorem lmL_279 : Cond.methodLink RL 279 yL_meant ∈ am_tg := am_t7 89 rfl rfl
theorem lmL_281 : Cond.methodLink RL 281 yX12_meant ∈ am_tg := am_t10 185 rfl rfl
theorem lmL_282 : Cond.methodLink RL 282 yL_undo ∈ am_tg := am_t7 106 rfl rfl
theorem lmL_284 : Cond.methodLink RL 284 yX12_undo ∈ am_tg := am_t10 192 rfl rfl
theorem lmL_285 : Cond.methodLink RL 285 yL_wobble ∈ am_tg := am_t7 116 rfl rfl
theorem lmL_287 : Cond.methodLink RL 287 yX12_wobble ∈ am_tg := am_t10 200 rfl rfl
theorem lmL_288 : Cond.methodLink RL 288 yL_beat ∈ am_tg := am_t7 138 rfl rfl
theorem lmL_290 : Cond.methodLink RL 290 yX12_beat ∈ am_tg := am_t10 208 rfl rfl
theorem lmL_291 : Cond.methodLink RL 291 yL_onto ∈ am_tg := am_t7 171 rfl rfl
theorem lmL_293 : Cond.methodLink RL 293 yX12_onto ∈ am_tg := am_t10 220 rfl rfl
theorem lmL_294 : Cond.methodLink RL 294 yL_loop ∈ am_tg := am_t7 197 rfl rfl
theorem lmL_296 : Cond.methodLink RL 296 yX12_loop ∈ am_tg := am_t10 235 rfl rfl
theorem lmL_297 : Cond.methodLink RL 297 yL_join ∈ am_tg := am_t7 209 rfl rfl
theorem lmL_299 : Cond.methodLink RL 299 yX12_join ∈ am_tg := am_t10 239 rfl rfl
theorem lmL_300 : Cond.methodLink RL 300 yL_shift ∈ am_tg := am_t7 227 rfl rfl
theorem lmL_302 : Cond.methodLink RL 302 yX12_shift ∈ am_tg := am_t11 3 rfl rfl
theorem lmL_303 : Cond.methodLink RL 303 yL_colour ∈ am_tg := am_t7 238 rfl rfl
theorem lmL_305 : Cond.methodLink RL 305 yX12_colour ∈ am_tg := am_t11 11 rfl rfl
theorem lmL_306 : Cond.methodLink RL 306 yL_peak ∈ am_tg := am_t8 7 rfl rfl
theorem lmL_308 : Cond.methodLink RL 308 yX12_peak ∈ am_tg := am_t11 15 rfl rfl
theorem lmL_309 : Cond.methodLink RL 309 yL_lock ∈ am_tg := am_t8 36 rfl rfl
theorem lmL_311 : Cond.methodLink RL 311 yX12_lock ∈ am_tg := am_t11 27 rfl rfl
theorem lmL_312 : Cond.methodLink RL 312 yL_steady ∈ am_tg := am_t8 48 rfl rfl
theorem lmL_314 : Cond.methodLink RL 314 yX12_steady ∈ am_tg := am_t11 31 rfl rfl
theorem lmL_315 : Cond.methodLink RL 315 yL_film ∈ am_tg := am_t8 68 rfl rfl
theorem lmL_317 : Cond.methodLink RL 317 yX12_film ∈ am_tg := am_t11 35 rfl rfl
theorem lmL_318 : Cond.methodLink RL 318 yL_live ∈ am_tg := am_t8 75 rfl rfl
theorem lmL_320 : Cond.methodLink RL 320 yX12_live ∈ am_tg := am_t11 39 rfl rfl
theorem lmL_321 : Cond.methodLink RL 321 yL_lag ∈ am_tg := am_t8 88 rfl rfl
theorem lmL_323 : Cond.methodLink RL 323 yX12_lag ∈ am_tg := am_t11 49 rfl rfl
theorem lmL_324 : Cond.methodLink RL 324 yL_lags ∈ am_tg := am_t8 101 rfl rfl
theorem lmL_326 : Cond.methodLink RL 326 yX12_lags ∈ am_tg := am_t11 53 rfl rfl
theorem lmL_327 : Cond.methodLink RL 327 yL_lost ∈ am_tg := am_t8 108 rfl rfl
theorem lmL_329 : Cond.methodLink RL 329 yX12_lost ∈ am_tg := am_t11 57 rfl rfl
theorem lmL_330 : Cond.methodLink RL 330 yX11_image ∈ am_tg := am_t3 46 rfl rfl
theorem lmL_333 : Cond.methodLink RL 333 yX12_image ∈ am_tg := am_t11 61 rfl rfl
theorem lmL_334 : Cond.methodLink RL 334 yX11_restore ∈ am_tg := am_t3 65 rfl rfl
theorem lmL_337 : Cond.methodLink RL 337 yX12_restore ∈ am_tg := am_t11 77 rfl rfl
theorem lmL_338 : Cond.methodLink RL 338 yX11_count ∈ am_tg := am_t4 176 rfl rfl
theorem lmL_341 : Cond.methodLink RL 341 yX12_count ∈ am_tg := am_t11 81 rfl rfl
set_option maxRecDepth 100000 in
set_option maxHeartbeats 4000000 in
theorem cw_sound {E : am_E} (hE : am_EH E) {p1 : Int32} {D D1 : am_D} {v : Int32} (hf : f_X11_sound p1 D = some (.inr (v, D1))) : am_C E mL_sound 11 1 6 [.ref 16, .int p1, .ref 2637] am_G0 D (.inl (some (.int 0))) am_G0 (am_wL D1 2637 0 v.toInt64) := by
  refine am_C_of (by decide +kernel) (Nat.le_of_ble_eq_true rfl) ?_
  change am_S E mL_sound 11 1 6 (.inl (some (.int 0))) am_G0 (am_wL D1 2637 0 v.toInt64) 0 0 0 [(0, .ref 16), (1, .int p1), (2, .ref 2637)] [] am_G0 D
  refine am_aload_n (am_dec tmL_sound 0 rfl) rfl rfl ?_
  refine am_iconst (v := (0 : Int32)) (am_dec tmL_sound 1 rfl) (by decide) ?_
  refine am_aload_n (am_dec tmL_sound 2 rfl) rfl rfl ?_
  refine am_iload_n (am_dec tmL_sound 3 rfl) rfl rfl ?_
  refine am_callV1 (As := [.int p1]) (st := [.int 0, .ref 2637]) hE (am_dec tmL_sound 4 rfl) ok_X11_sound rfl lmL_7 in_X11_sound se_X11_sound sh_16 cf11 (c_X11_sound hE hf) rfl (by decide) (Nat.le_of_ble_eq_true rfl) (Nat.zero_le _) (Nat.zero_le _) rfl ?_
  refine am_i2l (am_dec tmL_sound 5 rfl) ?_
  refine am_last2 (n := 1) (i := 0) (D2 := am_wL D1 2637 0 v.toInt64) hE (am_dec tmL_sound 6 rfl) shq_2637 (k_pl (k := 0) _ (by decide) (by decide)) ?_
  refine am_goto (tgt := 15) (am_dec tmL_sound 7 rfl) (by decide) ?_
  refine am_iconst (v := (0 : Int32)) (am_dec tmL_sound 11 rfl) (by decide) ?_
  exact am_iret (am_dec tmL_sound 12 rfl) rfl (Nat.zero_le _) (Nat.zero_le _)
set_option maxRecDepth 100000 in
set_option maxHeartbeats 4000000 in
theorem xw_sound_1 {E : am_E} (hE : am_EH E) {p1 : Int32} {D D1 : am_D} (hf : f_X11_sound p1 D = some (.inl ("java/lang/IllegalArgumentException", D1))) : am_C E mL_sound 11 1 6 [.ref 16, .int p1, .ref 2637] am_G0 D (.inl (some (.int 1))) am_G0 D1 := by
  refine am_C_of (by decide +kernel) (Nat.le_of_ble_eq_true rfl) ?_
  change am_S E mL_sound 11 1 6 (.inl (some (.int 1))) am_G0 D1 0 0 0 [(0, .ref 16), (1, .int p1), (2, .ref 2637)] [] am_G0 D
  refine am_aload_n (am_dec tmL_sound 0 rfl) rfl rfl ?_
  refine am_iconst (v := (0 : Int32)) (am_dec tmL_sound 1 rfl) (by decide) ?_
  refine am_aload_n (am_dec tmL_sound 2 rfl) rfl rfl ?_
  refine am_iload_n (am_dec tmL_sound 3 rfl) rfl rfl ?_
  refine am_callV_catch (As := [.int p1]) (st := [.int 0, .ref 2637]) (pre := []) (suf := []) (x := (0, 9, 12, 13)) (i := 3) (np := 13) hE (am_dec tmL_sound 4 rfl) ok_X11_sound rfl lmL_7 in_X11_sound se_X11_sound sh_16 cf11 (t_X11_sound hE hf) rfl (by decide) (Nat.le_of_ble_eq_true rfl) (Nat.le_refl _) (Nat.le_refl _) rfl rfl (fun z hz => nomatch hz) (by decide) (by decide) lcL_IAE lcs_IAE (Or.inl ⟨3, (am_dec tmL_sound 8 rfl), rfl, rfl⟩) (by decide) ?_
  refine am_iconst (v := (1 : Int32)) (am_dec tmL_sound 9 rfl) (by decide) ?_
  exact am_iret (am_dec tmL_sound 10 rfl) rfl (Nat.le_refl _) (Nat.le_refl _)
set_option maxRecDepth 100000 in
set_option maxHeartbeats 4000000 in
theorem cw_map {E : am_E} (hE : am_EH E) {p1 : Int32} {D D1 : am_D} {v : Int32} (hf : f_X11_map p1 D = some (.inr (v, D1))) : am_C E mL_map 10 1 6 [.ref 16, .int p1, .ref 2637] am_G0 D (.inl (some (.int 0))) am_G0 (am_wL D1 2637 0 v.toInt64) := by
  refine am_C_of (by decide +kernel) (Nat.le_of_ble_eq_true rfl) ?_
  change am_S E mL_map 10 1 6 (.inl (some (.int 0))) am_G0 (am_wL D1 2637 0 v.toInt64) 0 0 0 [(0, .ref 16), (1, .int p1), (2, .ref 2637)] [] am_G0 D
  refine am_aload_n (am_dec tmL_map 0 rfl) rfl rfl ?_
  refine am_iconst (v := (0 : Int32)) (am_dec tmL_map 1 rfl) (by decide) ?_
  refine am_aload_n (am_dec tmL_map 2 rfl) rfl rfl ?_
  refine am_iload_n (am_dec tmL_map 3 rfl) rfl rfl ?_
  refine am_callV1 (As := [.int p1]) (st := [.int 0, .ref 2637]) hE (am_dec tmL_map 4 rfl) ok_X11_map rfl lmL_15 in_X11_map se_X11_map sh_16 cf11 (c_X11_map hE hf) rfl (by decide) (Nat.le_of_ble_eq_true rfl) (Nat.zero_le _) (Nat.zero_le _) rfl ?_
  refine am_i2l (am_dec tmL_map 5 rfl) ?_
  refine am_last2 (n := 1) (i := 0) (D2 := am_wL D1 2637 0 v.toInt64) hE (am_dec tmL_map 6 rfl) shq_2637 (k_pl (k := 0) _ (by decide) (by decide)) ?_
  refine am_goto (tgt := 15) (am_dec tmL_map 7 rfl) (by decide) ?_
  refine am_iconst (v := (0 : Int32)) (am_dec tmL_map 11 rfl) (by decide) ?_
  exact am_iret (am_dec tmL_map 12 rfl) rfl (Nat.zero_le _) (Nat.zero_le _)
set_option maxRecDepth 100000 in
set_option maxHeartbeats 4000000 in
theorem xw_map_1 {E : am_E} (hE : am_EH E) {p1 : Int32} {D D1 : am_D} (hf : f_X11_map p1 D = some (.inl ("java/lang/IllegalArgumentException", D1))) : am_C E mL_map 10 1 6 [.ref 16, .int p1, .ref 2637] am_G0 D (.inl (some (.int 1))) am_G0 D1 := by
  refine am_C_of (by decide +kernel) (Nat.le_of_ble_eq_true rfl) ?_
  change am_S E mL_map 10 1 6 (.inl (some (.int 1))) am_G0 D1 0 0 0 [(0, .ref 16), (1, .int p1), (2, .ref 2637)] [] am_G0 D
  refine am_aload_n (am_dec tmL_map 0 rfl) rfl rfl ?_
  refine am_iconst (v := (0 : Int32)) (am_dec tmL_map 1 rfl) (by decide) ?_
  refine am_aload_n (am_dec tmL_map 2 rfl) rfl rfl ?_
  refine am_iload_n (am_dec tmL_map 3 rfl) rfl rfl ?_
  refine am_callV_catch (As := [.int p1]) (st := [.int 0, .ref 2637]) (pre := []) (suf := []) (x := (0, 9, 12, 13)) (i := 3) (np := 13) hE (am_dec tmL_map 4 rfl) ok_X11_map rfl lmL_15 in_X11_map se_X11_map sh_16 cf11 (t_X11_map hE hf) rfl (by decide) (Nat.le_of_ble_eq_true rfl) (Nat.le_refl _) (Nat.le_refl _) rfl rfl (fun z hz => nomatch hz) (by decide) (by decide) lcL_IAE lcs_IAE (Or.inl ⟨3, (am_dec tmL_map 8 rfl), rfl, rfl⟩) (by decide) ?_
  refine am_iconst (v := (1 : Int32)) (am_dec tmL_map 9 rfl) (by decide) ?_
  exact am_iret (am_dec tmL_map 10 rfl) rfl (Nat.le_refl _) (Nat.le_refl _)
set_option maxRecDepth 100000 in
set_option maxHeartbeats 4000000 in
theorem cw_size {E : am_E} (hE : am_EH E) {p1 : Int32} {D D1 : am_D} {v : Int32} (hf : k_lf D (f_X11_size p1 D) = some (.inr (v, D1))) : am_C E mL_size 3 1 6 [.ref 16, .int p1, .ref 2637] am_G0 D (.inl (some (.int 0))) am_G0 (am_wL D1 2637 0 v.toInt64) := by
  refine am_C_of (by decide +kernel) (Nat.le_of_ble_eq_true rfl) ?_
  change am_S E mL_size 3 1 6 (.inl (some (.int 0))) am_G0 (am_wL D1 2637 0 v.toInt64) 0 0 0 [(0, .ref 16), (1, .int p1), (2, .ref 2637)] [] am_G0 D
  obtain ⟨h9, rfl⟩ := k_lf_r hf
  have hf := h9
  refine am_aload_n (am_dec tmL_size 0 rfl) rfl rfl ?_
  refine am_iconst (v := (0 : Int32)) (am_dec tmL_size 1 rfl) (by decide) ?_
  refine am_aload_n (am_dec tmL_size 2 rfl) rfl rfl ?_
  refine am_iload_n (am_dec tmL_size 3 rfl) rfl rfl ?_
  refine am_callV1 (As := [.int p1]) (st := [.int 0, .ref 2637]) hE (am_dec tmL_size 4 rfl) ok_X11_size rfl lmL_18 in_X11_size se_X11_size sh_16 cf11 (c_X11_size hE hf) rfl (by decide) (Nat.le_of_ble_eq_true rfl) (Nat.zero_le _) (Nat.zero_le _) rfl ?_
  refine am_i2l (am_dec tmL_size 5 rfl) ?_
  refine am_last2 (n := 1) (i := 0) (D2 := am_wL D1 2637 0 v.toInt64) hE (am_dec tmL_size 6 rfl) shq_2637 (k_pl (k := 0) _ (by decide) (by decide)) ?_
  refine am_goto (tgt := 15) (am_dec tmL_size 7 rfl) (by decide) ?_
  refine am_iconst (v := (0 : Int32)) (am_dec tmL_size 11 rfl) (by decide) ?_
  exact am_iret (am_dec tmL_size 12 rfl) rfl (Nat.zero_le _) (Nat.zero_le _)
set_option maxRecDepth 100000 in
set_option maxHeartbeats 4000000 in
theorem xw_size_1 {E : am_E} (hE : am_EH E) {p1 : Int32} {D D1 : am_D} (hf : k_lf D (f_X11_size p1 D) = some (.inl ("java/util/NoSuchElementException", D1))) : am_C E mL_size 3 1 6 [.ref 16, .int p1, .ref 2637] am_G0 D (.inl (some (.int 1))) am_G0 D1 := by
  refine am_C_of (by decide +kernel) (Nat.le_of_ble_eq_true rfl) ?_
  change am_S E mL_size 3 1 6 (.inl (some (.int 1))) am_G0 D1 0 0 0 [(0, .ref 16), (1, .int p1), (2, .ref 2637)] [] am_G0 D
  obtain ⟨h9, rfl⟩ := k_lf_l hf
  have hf := h9
  refine am_aload_n (am_dec tmL_size 0 rfl) rfl rfl ?_
  refine am_iconst (v := (0 : Int32)) (am_dec tmL_size 1 rfl) (by decide) ?_
  refine am_aload_n (am_dec tmL_size 2 rfl) rfl rfl ?_
  refine am_iload_n (am_dec tmL_size 3 rfl) rfl rfl ?_
  refine am_callV_catch (As := [.int p1]) (st := [.int 0, .ref 2637]) (pre := []) (suf := []) (x := (0, 9, 12, 21)) (i := 3) (np := 13) hE (am_dec tmL_size 4 rfl) ok_X11_size rfl lmL_18 in_X11_size se_X11_size sh_16 cf11 (t_X11_size hE hf) rfl (by decide) (Nat.le_of_ble_eq_true rfl) (Nat.le_refl _) (Nat.le_refl _) rfl rfl (fun z hz => nomatch hz) (by decide) (by decide) lcL_NSE lcs_NSE (Or.inl ⟨3, (am_dec tmL_size 8 rfl), rfl, rfl⟩) (by decide) ?_
  refine am_iconst (v := (1 : Int32)) (am_dec tmL_size 9 rfl) (by decide) ?_
  exact am_iret (am_dec tmL_size 10 rfl) rfl (Nat.le_refl _) (Nat.le_refl _)
set_option maxRecDepth 100000 in
set_option maxHeartbeats 4000000 in
theorem cw_sample {E : am_E} (hE : am_EH E) {p1 p2 : Int32} {D D1 : am_D} {v : Int32} (hf : k_lf D (f_X11_sample p1 p2 D) = some (.inr (v, D1))) : am_C E mL_sample 4 1 6 [.ref 16, .int p1, .int p2, .ref 2637] am_G0 D (.inl (some (.int 0))) am_G0 (am_wL D1 2637 0 v.toInt64) := by
  refine am_C_of (by decide +kernel) (Nat.le_of_ble_eq_true rfl) ?_
  change am_S E mL_sample 4 1 6 (.inl (some (.int 0))) am_G0 (am_wL D1 2637 0 v.toInt64) 0 0 0 [(0, .ref 16), (1, .int p1), (2, .int p2), (3, .ref 2637)] [] am_G0 D
  obtain ⟨h9, rfl⟩ := k_lf_r hf
  have hf := h9
  refine am_aload_n (am_dec tmL_sample 0 rfl) rfl rfl ?_
  refine am_iconst (v := (0 : Int32)) (am_dec tmL_sample 1 rfl) (by decide) ?_
  refine am_aload_n (am_dec tmL_sample 2 rfl) rfl rfl ?_
  refine am_iload_n (am_dec tmL_sample 3 rfl) rfl rfl ?_
  refine am_iload_n (am_dec tmL_sample 4 rfl) rfl rfl ?_
  refine am_callV1 (As := [.int p1, .int p2]) (st := [.int 0, .ref 2637]) hE (am_dec tmL_sample 5 rfl) ok_X11_sample rfl lmL_23 in_X11_sample se_X11_sample sh_16 cf11 (c_X11_sample hE hf) rfl (by decide) (Nat.le_of_ble_eq_true rfl) (Nat.zero_le _) (Nat.zero_le _) rfl ?_
  refine am_i2l (am_dec tmL_sample 6 rfl) ?_
  refine am_last2 (n := 1) (i := 0) (D2 := am_wL D1 2637 0 v.toInt64) hE (am_dec tmL_sample 7 rfl) shq_2637 (k_pl (k := 0) _ (by decide) (by decide)) ?_
  refine am_goto (tgt := 17) (am_dec tmL_sample 8 rfl) (by decide) ?_
  refine am_iconst (v := (0 : Int32)) (am_dec tmL_sample 12 rfl) (by decide) ?_
  exact am_iret (am_dec tmL_sample 13 rfl) rfl (Nat.zero_le _) (Nat.zero_le _)
set_option maxRecDepth 100000 in
set_option maxHeartbeats 4000000 in
theorem xw_sample_1 {E : am_E} (hE : am_EH E) {p1 p2 : Int32} {D D1 : am_D} (hf : k_lf D (f_X11_sample p1 p2 D) = some (.inl ("java/util/NoSuchElementException", D1))) : am_C E mL_sample 4 1 6 [.ref 16, .int p1, .int p2, .ref 2637] am_G0 D (.inl (some (.int 1))) am_G0 D1 := by
  refine am_C_of (by decide +kernel) (Nat.le_of_ble_eq_true rfl) ?_
  change am_S E mL_sample 4 1 6 (.inl (some (.int 1))) am_G0 D1 0 0 0 [(0, .ref 16), (1, .int p1), (2, .int p2), (3, .ref 2637)] [] am_G0 D
  obtain ⟨h9, rfl⟩ := k_lf_l hf
  have hf := h9
  refine am_aload_n (am_dec tmL_sample 0 rfl) rfl rfl ?_
  refine am_iconst (v := (0 : Int32)) (am_dec tmL_sample 1 rfl) (by decide) ?_
  refine am_aload_n (am_dec tmL_sample 2 rfl) rfl rfl ?_
  refine am_iload_n (am_dec tmL_sample 3 rfl) rfl rfl ?_
  refine am_iload_n (am_dec tmL_sample 4 rfl) rfl rfl ?_
  refine am_callV_catch (As := [.int p1, .int p2]) (st := [.int 0, .ref 2637]) (pre := []) (suf := []) (x := (0, 10, 13, 21)) (i := 4) (np := 15) hE (am_dec tmL_sample 5 rfl) ok_X11_sample rfl lmL_23 in_X11_sample se_X11_sample sh_16 cf11 (t_X11_sample hE hf) rfl (by decide) (Nat.le_of_ble_eq_true rfl) (Nat.le_refl _) (Nat.le_refl _) rfl rfl (fun z hz => nomatch hz) (by decide) (by decide) lcL_NSE lcs_NSE (Or.inr ⟨(am_dec tmL_sample 9 rfl), rfl⟩) (by decide) ?_
  refine am_iconst (v := (1 : Int32)) (am_dec tmL_sample 10 rfl) (by decide) ?_
  exact am_iret (am_dec tmL_sample 11 rfl) rfl (Nat.le_refl _) (Nat.le_refl _)
set_option maxRecDepth 100000 in
set_option maxHeartbeats 4000000 in
theorem cw_told {E : am_E} (hE : am_EH E) {p1 p2 : Int32} {D D1 : am_D} {v : Int32} (hf : k_lf D (f_X11_told p1 p2 D) = some (.inr (v, D1))) : am_C E mL_told 4 1 6 [.ref 16, .int p1, .int p2, .ref 2637] am_G0 D (.inl (some (.int 0))) am_G0 (am_wL D1 2637 0 v.toInt64) := by
  refine am_C_of (by decide +kernel) (Nat.le_of_ble_eq_true rfl) ?_
  change am_S E mL_told 4 1 6 (.inl (some (.int 0))) am_G0 (am_wL D1 2637 0 v.toInt64) 0 0 0 [(0, .ref 16), (1, .int p1), (2, .int p2), (3, .ref 2637)] [] am_G0 D
  obtain ⟨h9, rfl⟩ := k_lf_r hf
  have hf := h9
  refine am_aload_n (am_dec tmL_told 0 rfl) rfl rfl ?_
  refine am_iconst (v := (0 : Int32)) (am_dec tmL_told 1 rfl) (by decide) ?_
  refine am_aload_n (am_dec tmL_told 2 rfl) rfl rfl ?_
  refine am_iload_n (am_dec tmL_told 3 rfl) rfl rfl ?_
  refine am_iload_n (am_dec tmL_told 4 rfl) rfl rfl ?_
  refine am_callV1 (As := [.int p1, .int p2]) (st := [.int 0, .ref 2637]) hE (am_dec tmL_told 5 rfl) ok_X11_told rfl lmL_27 in_X11_told se_X11_told sh_16 cf11 (c_X11_told hE hf) rfl (by decide) (Nat.le_of_ble_eq_true rfl) (Nat.zero_le _) (Nat.zero_le _) rfl ?_
  refine am_i2l (am_dec tmL_told 6 rfl) ?_
  refine am_last2 (n := 1) (i := 0) (D2 := am_wL D1 2637 0 v.toInt64) hE (am_dec tmL_told 7 rfl) shq_2637 (k_pl (k := 0) _ (by decide) (by decide)) ?_
  refine am_goto (tgt := 21) (am_dec tmL_told 8 rfl) (by decide) ?_
  refine am_iconst (v := (0 : Int32)) (am_dec tmL_told 15 rfl) (by decide) ?_
  exact am_iret (am_dec tmL_told 16 rfl) rfl (Nat.zero_le _) (Nat.zero_le _)
set_option maxRecDepth 100000 in
set_option maxHeartbeats 4000000 in
theorem xw_told_1 {E : am_E} (hE : am_EH E) {p1 p2 : Int32} {D D1 : am_D} (hf : k_lf D (f_X11_told p1 p2 D) = some (.inl ("java/lang/IndexOutOfBoundsException", D1))) : am_C E mL_told 4 1 6 [.ref 16, .int p1, .int p2, .ref 2637] am_G0 D (.inl (some (.int 1))) am_G0 D1 := by
  refine am_C_of (by decide +kernel) (Nat.le_of_ble_eq_true rfl) ?_
  change am_S E mL_told 4 1 6 (.inl (some (.int 1))) am_G0 D1 0 0 0 [(0, .ref 16), (1, .int p1), (2, .int p2), (3, .ref 2637)] [] am_G0 D
  obtain ⟨h9, rfl⟩ := k_lf_l hf
  have hf := h9
  refine am_aload_n (am_dec tmL_told 0 rfl) rfl rfl ?_
  refine am_iconst (v := (0 : Int32)) (am_dec tmL_told 1 rfl) (by decide) ?_
  refine am_aload_n (am_dec tmL_told 2 rfl) rfl rfl ?_
  refine am_iload_n (am_dec tmL_told 3 rfl) rfl rfl ?_
  refine am_iload_n (am_dec tmL_told 4 rfl) rfl rfl ?_
  refine am_callV_catch (As := [.int p1, .int p2]) (st := [.int 0, .ref 2637]) (pre := []) (suf := [(0, 10, 17, 13)]) (x := (0, 10, 13, 30)) (i := 4) (np := 15) hE (am_dec tmL_told 5 rfl) ok_X11_told rfl lmL_27 in_X11_told se_X11_told sh_16 cf11 (t_X11_told hE hf) rfl (by decide) (Nat.le_of_ble_eq_true rfl) (Nat.le_refl _) (Nat.le_refl _) rfl rfl (fun z hz => nomatch hz) (by decide) (by decide) lcL_IOB lcs_IOB (Or.inr ⟨(am_dec tmL_told 9 rfl), rfl⟩) (by decide) ?_
  refine am_iconst (v := (1 : Int32)) (am_dec tmL_told 10 rfl) (by decide) ?_
  exact am_iret (am_dec tmL_told 11 rfl) rfl (Nat.le_refl _) (Nat.le_refl _)
set_option maxRecDepth 100000 in
set_option maxHeartbeats 4000000 in
theorem xw_told_2 {E : am_E} (hE : am_EH E) {p1 p2 : Int32} {D D1 : am_D} (hf : k_lf D (f_X11_told p1 p2 D) = some (.inl ("java/lang/IllegalArgumentException", D1))) : am_C E mL_told 4 1 6 [.ref 16, .int p1, .int p2, .ref 2637] am_G0 D (.inl (some (.int 2))) am_G0 D1 := by
  refine am_C_of (by decide +kernel) (Nat.le_of_ble_eq_true rfl) ?_
  change am_S E mL_told 4 1 6 (.inl (some (.int 2))) am_G0 D1 0 0 0 [(0, .ref 16), (1, .int p1), (2, .int p2), (3, .ref 2637)] [] am_G0 D
  obtain ⟨h9, rfl⟩ := k_lf_l hf
  have hf := h9
  refine am_aload_n (am_dec tmL_told 0 rfl) rfl rfl ?_
  refine am_iconst (v := (0 : Int32)) (am_dec tmL_told 1 rfl) (by decide) ?_
  refine am_aload_n (am_dec tmL_told 2 rfl) rfl rfl ?_
  refine am_iload_n (am_dec tmL_told 3 rfl) rfl rfl ?_
  refine am_iload_n (am_dec tmL_told 4 rfl) rfl rfl ?_
  refine am_callV_catch (As := [.int p1, .int p2]) (st := [.int 0, .ref 2637]) (pre := [(0, 10, 13, 30)]) (suf := []) (x := (0, 10, 17, 13)) (i := 4) (np := 19) hE (am_dec tmL_told 5 rfl) ok_X11_told rfl lmL_27 in_X11_told se_X11_told sh_16 cf11 (t_X11_told hE hf) rfl (by decide) (Nat.le_of_ble_eq_true rfl) (Nat.le_refl _) (Nat.le_refl _) rfl rfl (List.forall_mem_cons.mpr ⟨⟨by decide, "java/lang/IndexOutOfBoundsException", lcL_IOB, lnc_IAE_IOB⟩, (fun z hz => nomatch hz)⟩) (by decide) (by decide) lcL_IAE lcs_IAE (Or.inr ⟨(am_dec tmL_told 12 rfl), rfl⟩) (by decide) ?_
  refine am_iconst (v := (2 : Int32)) (am_dec tmL_told 13 rfl) (by decide) ?_
  exact am_iret (am_dec tmL_told 14 rfl) rfl (Nat.le_refl _) (Nat.le_refl _)
set_option maxRecDepth 100000 in
set_option maxHeartbeats 4000000 in
theorem cw_place {E : am_E} (hE : am_EH E) {p1 p2 : Int32} {D D1 : am_D} {v : Int32} (hf : k_lf D (f_X11_place p1 p2 D) = some (.inr (v, D1))) : am_C E mL_place 4 1 6 [.ref 16, .int p1, .int p2, .ref 2637] am_G0 D (.inl (some (.int 0))) am_G0 (am_wL D1 2637 0 v.toInt64) := by
  refine am_C_of (by decide +kernel) (Nat.le_of_ble_eq_true rfl) ?_
  change am_S E mL_place 4 1 6 (.inl (some (.int 0))) am_G0 (am_wL D1 2637 0 v.toInt64) 0 0 0 [(0, .ref 16), (1, .int p1), (2, .int p2), (3, .ref 2637)] [] am_G0 D
  obtain ⟨h9, rfl⟩ := k_lf_r hf
  have hf := h9
  refine am_aload_n (am_dec tmL_place 0 rfl) rfl rfl ?_
  refine am_iconst (v := (0 : Int32)) (am_dec tmL_place 1 rfl) (by decide) ?_
  refine am_aload_n (am_dec tmL_place 2 rfl) rfl rfl ?_
  refine am_iload_n (am_dec tmL_place 3 rfl) rfl rfl ?_
  refine am_iload_n (am_dec tmL_place 4 rfl) rfl rfl ?_
  refine am_callV1 (As := [.int p1, .int p2]) (st := [.int 0, .ref 2637]) hE (am_dec tmL_place 5 rfl) ok_X11_place rfl lmL_32 in_X11_place se_X11_place sh_16 cf11 (c_X11_place hE hf) rfl (by decide) (Nat.le_of_ble_eq_true rfl) (Nat.zero_le _) (Nat.zero_le _) rfl ?_
  refine am_i2l (am_dec tmL_place 6 rfl) ?_
  refine am_last2 (n := 1) (i := 0) (D2 := am_wL D1 2637 0 v.toInt64) hE (am_dec tmL_place 7 rfl) shq_2637 (k_pl (k := 0) _ (by decide) (by decide)) ?_
  refine am_goto (tgt := 17) (am_dec tmL_place 8 rfl) (by decide) ?_
  refine am_iconst (v := (0 : Int32)) (am_dec tmL_place 12 rfl) (by decide) ?_
  exact am_iret (am_dec tmL_place 13 rfl) rfl (Nat.zero_le _) (Nat.zero_le _)
set_option maxRecDepth 100000 in
set_option maxHeartbeats 4000000 in
theorem xw_place_1 {E : am_E} (hE : am_EH E) {p1 p2 : Int32} {D D1 : am_D} (hf : k_lf D (f_X11_place p1 p2 D) = some (.inl ("java/lang/IndexOutOfBoundsException", D1))) : am_C E mL_place 4 1 6 [.ref 16, .int p1, .int p2, .ref 2637] am_G0 D (.inl (some (.int 1))) am_G0 D1 := by
  refine am_C_of (by decide +kernel) (Nat.le_of_ble_eq_true rfl) ?_
  change am_S E mL_place 4 1 6 (.inl (some (.int 1))) am_G0 D1 0 0 0 [(0, .ref 16), (1, .int p1), (2, .int p2), (3, .ref 2637)] [] am_G0 D
  obtain ⟨h9, rfl⟩ := k_lf_l hf
  have hf := h9
  refine am_aload_n (am_dec tmL_place 0 rfl) rfl rfl ?_
  refine am_iconst (v := (0 : Int32)) (am_dec tmL_place 1 rfl) (by decide) ?_
  refine am_aload_n (am_dec tmL_place 2 rfl) rfl rfl ?_
  refine am_iload_n (am_dec tmL_place 3 rfl) rfl rfl ?_
  refine am_iload_n (am_dec tmL_place 4 rfl) rfl rfl ?_
  refine am_callV_catch (As := [.int p1, .int p2]) (st := [.int 0, .ref 2637]) (pre := []) (suf := []) (x := (0, 10, 13, 30)) (i := 4) (np := 15) hE (am_dec tmL_place 5 rfl) ok_X11_place rfl lmL_32 in_X11_place se_X11_place sh_16 cf11 (t_X11_place hE hf) rfl (by decide) (Nat.le_of_ble_eq_true rfl) (Nat.le_refl _) (Nat.le_refl _) rfl rfl (fun z hz => nomatch hz) (by decide) (by decide) lcL_IOB lcs_IOB (Or.inr ⟨(am_dec tmL_place 9 rfl), rfl⟩) (by decide) ?_
  refine am_iconst (v := (1 : Int32)) (am_dec tmL_place 10 rfl) (by decide) ?_
  exact am_iret (am_dec tmL_place 11 rfl) rfl (Nat.le_refl _) (Nat.le_refl _)
set_option maxRecDepth 100000 in
set_option maxHeartbeats 4000000 in
theorem cw_where {E : am_E} (hE : am_EH E) {p1 p2 : Int32} {D D1 : am_D} {v : Int32} (hf : k_lf D (f_X11_where p1 p2 D) = some (.inr (v, D1))) : am_C E mL_where 5 1 6 [.ref 16, .int p1, .int p2, .ref 2637] am_G0 D (.inl (some (.int 0))) am_G0 (am_wL D1 2637 0 v.toInt64) := by
  refine am_C_of (by decide +kernel) (Nat.le_of_ble_eq_true rfl) ?_
  change am_S E mL_where 5 1 6 (.inl (some (.int 0))) am_G0 (am_wL D1 2637 0 v.toInt64) 0 0 0 [(0, .ref 16), (1, .int p1), (2, .int p2), (3, .ref 2637)] [] am_G0 D
  obtain ⟨h9, rfl⟩ := k_lf_r hf
  have hf := h9
  refine am_aload_n (am_dec tmL_where 0 rfl) rfl rfl ?_
  refine am_iconst (v := (0 : Int32)) (am_dec tmL_where 1 rfl) (by decide) ?_
  refine am_aload_n (am_dec tmL_where 2 rfl) rfl rfl ?_
  refine am_iload_n (am_dec tmL_where 3 rfl) rfl rfl ?_
  refine am_iload_n (am_dec tmL_where 4 rfl) rfl rfl ?_
  refine am_callV1 (As := [.int p1, .int p2]) (st := [.int 0, .ref 2637]) hE (am_dec tmL_where 5 rfl) ok_X11_where rfl lmL_35 in_X11_where se_X11_where sh_16 cf11 (c_X11_where hE hf) rfl (by decide) (Nat.le_of_ble_eq_true rfl) (Nat.zero_le _) (Nat.zero_le _) rfl ?_
  refine am_i2l (am_dec tmL_where 6 rfl) ?_
  refine am_last2 (n := 1) (i := 0) (D2 := am_wL D1 2637 0 v.toInt64) hE (am_dec tmL_where 7 rfl) shq_2637 (k_pl (k := 0) _ (by decide) (by decide)) ?_
  refine am_goto (tgt := 17) (am_dec tmL_where 8 rfl) (by decide) ?_
  refine am_iconst (v := (0 : Int32)) (am_dec tmL_where 12 rfl) (by decide) ?_
  exact am_iret (am_dec tmL_where 13 rfl) rfl (Nat.zero_le _) (Nat.zero_le _)
set_option maxRecDepth 100000 in
set_option maxHeartbeats 4000000 in
theorem xw_where_1 {E : am_E} (hE : am_EH E) {p1 p2 : Int32} {D D1 : am_D} (hf : k_lf D (f_X11_where p1 p2 D) = some (.inl ("java/lang/IndexOutOfBoundsException", D1))) : am_C E mL_where 5 1 6 [.ref 16, .int p1, .int p2, .ref 2637] am_G0 D (.inl (some (.int 1))) am_G0 D1 := by
  refine am_C_of (by decide +kernel) (Nat.le_of_ble_eq_true rfl) ?_
  change am_S E mL_where 5 1 6 (.inl (some (.int 1))) am_G0 D1 0 0 0 [(0, .ref 16), (1, .int p1), (2, .int p2), (3, .ref 2637)] [] am_G0 D
  obtain ⟨h9, rfl⟩ := k_lf_l hf
  have hf := h9
  refine am_aload_n (am_dec tmL_where 0 rfl) rfl rfl ?_
  refine am_iconst (v := (0 : Int32)) (am_dec tmL_where 1 rfl) (by decide) ?_
  refine am_aload_n (am_dec tmL_where 2 rfl) rfl rfl ?_
  refine am_iload_n (am_dec tmL_where 3 rfl) rfl rfl ?_
  refine am_iload_n (am_dec tmL_where 4 rfl) rfl rfl ?_
  refine am_callV_catch (As := [.int p1, .int p2]) (st := [.int 0, .ref 2637]) (pre := []) (suf := []) (x := (0, 10, 13, 30)) (i := 4) (np := 15) hE (am_dec tmL_where 5 rfl) ok_X11_where rfl lmL_35 in_X11_where se_X11_where sh_16 cf11 (t_X11_where hE hf) rfl (by decide) (Nat.le_of_ble_eq_true rfl) (Nat.le_refl _) (Nat.le_refl _) rfl rfl (fun z hz => nomatch hz) (by decide) (by decide) lcL_IOB lcs_IOB (Or.inr ⟨(am_dec tmL_where 9 rfl), rfl⟩) (by decide) ?_
  refine am_iconst (v := (1 : Int32)) (am_dec tmL_where 10 rfl) (by decide) ?_
  exact am_iret (am_dec tmL_where 11 rfl) rfl (Nat.le_refl _) (Nat.le_refl _)
set_option maxRecDepth 100000 in
set_option maxHeartbeats 4000000 in
theorem cw_pieces {E : am_E} (hE : am_EH E) {p1 p2 p3 : Int32} {D D1 : am_D} {v : Int32} (hf : f_X11_pieces p1 p2 p3 D = some (.inr (v, D1))) : am_C E mL_pieces 4 1 6 [.ref 16, .int p1, .int p2, .int p3, .ref 2637] am_G0 D (.inl (some (.int 0))) am_G0 (am_wL D1 2637 0 v.toInt64) := by
  refine am_C_of (by decide +kernel) (Nat.le_of_ble_eq_true rfl) ?_
  change am_S E mL_pieces 4 1 6 (.inl (some (.int 0))) am_G0 (am_wL D1 2637 0 v.toInt64) 0 0 0 [(0, .ref 16), (1, .int p1), (2, .int p2), (3, .int p3), (4, .ref 2637)] [] am_G0 D
  refine am_aload (am_dec tmL_pieces 0 rfl) rfl ?_
  refine am_iconst (v := (0 : Int32)) (am_dec tmL_pieces 1 rfl) (by decide) ?_
  refine am_aload_n (am_dec tmL_pieces 2 rfl) rfl rfl ?_
  refine am_iload_n (am_dec tmL_pieces 3 rfl) rfl rfl ?_
  refine am_iload_n (am_dec tmL_pieces 4 rfl) rfl rfl ?_
  refine am_iload_n (am_dec tmL_pieces 5 rfl) rfl rfl ?_
  refine am_callV1 (As := [.int p1, .int p2, .int p3]) (st := [.int 0, .ref 2637]) hE (am_dec tmL_pieces 6 rfl) ok_X11_pieces rfl lmL_38 in_X11_pieces se_X11_pieces sh_16 cf11 (c_X11_pieces hE hf) rfl (by decide) (Nat.le_of_ble_eq_true rfl) (Nat.zero_le _) (Nat.zero_le _) rfl ?_
  refine am_i2l (am_dec tmL_pieces 7 rfl) ?_
  refine am_last2 (n := 1) (i := 0) (D2 := am_wL D1 2637 0 v.toInt64) hE (am_dec tmL_pieces 8 rfl) shq_2637 (k_pl (k := 0) _ (by decide) (by decide)) ?_
  refine am_goto (tgt := 19) (am_dec tmL_pieces 9 rfl) (by decide) ?_
  refine am_iconst (v := (0 : Int32)) (am_dec tmL_pieces 13 rfl) (by decide) ?_
  exact am_iret (am_dec tmL_pieces 14 rfl) rfl (Nat.zero_le _) (Nat.zero_le _)
set_option maxRecDepth 100000 in
set_option maxHeartbeats 4000000 in
theorem xw_pieces_1 {E : am_E} (hE : am_EH E) {p1 p2 p3 : Int32} {D D1 : am_D} (hf : f_X11_pieces p1 p2 p3 D = some (.inl ("java/lang/IllegalArgumentException", D1))) : am_C E mL_pieces 4 1 6 [.ref 16, .int p1, .int p2, .int p3, .ref 2637] am_G0 D (.inl (some (.int 1))) am_G0 D1 := by
  refine am_C_of (by decide +kernel) (Nat.le_of_ble_eq_true rfl) ?_
  change am_S E mL_pieces 4 1 6 (.inl (some (.int 1))) am_G0 D1 0 0 0 [(0, .ref 16), (1, .int p1), (2, .int p2), (3, .int p3), (4, .ref 2637)] [] am_G0 D
  refine am_aload (am_dec tmL_pieces 0 rfl) rfl ?_
  refine am_iconst (v := (0 : Int32)) (am_dec tmL_pieces 1 rfl) (by decide) ?_
  refine am_aload_n (am_dec tmL_pieces 2 rfl) rfl rfl ?_
  refine am_iload_n (am_dec tmL_pieces 3 rfl) rfl rfl ?_
  refine am_iload_n (am_dec tmL_pieces 4 rfl) rfl rfl ?_
  refine am_iload_n (am_dec tmL_pieces 5 rfl) rfl rfl ?_
  refine am_callV_catch (As := [.int p1, .int p2, .int p3]) (st := [.int 0, .ref 2637]) (pre := []) (suf := []) (x := (0, 12, 15, 13)) (i := 5) (np := 17) hE (am_dec tmL_pieces 6 rfl) ok_X11_pieces rfl lmL_38 in_X11_pieces se_X11_pieces sh_16 cf11 (t_X11_pieces hE hf) rfl (by decide) (Nat.le_of_ble_eq_true rfl) (Nat.le_refl _) (Nat.le_refl _) rfl rfl (fun z hz => nomatch hz) (by decide) (by decide) lcL_IAE lcs_IAE (Or.inr ⟨(am_dec tmL_pieces 10 rfl), rfl⟩) (by decide) ?_
  refine am_iconst (v := (1 : Int32)) (am_dec tmL_pieces 11 rfl) (by decide) ?_
  exact am_iret (am_dec tmL_pieces 12 rfl) rfl (Nat.le_refl _) (Nat.le_refl _)
set_option maxRecDepth 100000 in
set_option maxHeartbeats 4000000 in
theorem cw_draw {E : am_E} (hE : am_EH E) {p1 p2 : Int32} {D D1 : am_D} {v : Int32} (hf : f_X11_draw p1 p2 D = some (.inr (v, D1))) : am_C E mL_draw 7 1 6 [.ref 16, .int p1, .int p2, .ref 2637] am_G0 D (.inl (some (.int 0))) am_G0 (am_wL D1 2637 0 v.toInt64) := by
  refine am_C_of (by decide +kernel) (Nat.le_of_ble_eq_true rfl) ?_
  change am_S E mL_draw 7 1 6 (.inl (some (.int 0))) am_G0 (am_wL D1 2637 0 v.toInt64) 0 0 0 [(0, .ref 16), (1, .int p1), (2, .int p2), (3, .ref 2637)] [] am_G0 D
  refine am_aload_n (am_dec tmL_draw 0 rfl) rfl rfl ?_
  refine am_iconst (v := (0 : Int32)) (am_dec tmL_draw 1 rfl) (by decide) ?_
  refine am_aload_n (am_dec tmL_draw 2 rfl) rfl rfl ?_
  refine am_iload_n (am_dec tmL_draw 3 rfl) rfl rfl ?_
  refine am_iload_n (am_dec tmL_draw 4 rfl) rfl rfl ?_
  refine am_callV1 (As := [.int p1, .int p2]) (st := [.int 0, .ref 2637]) hE (am_dec tmL_draw 5 rfl) ok_X11_draw rfl lmL_42 in_X11_draw se_X11_draw sh_16 cf11 (c_X11_draw hE hf) rfl (by decide) (Nat.le_of_ble_eq_true rfl) (Nat.zero_le _) (Nat.zero_le _) rfl ?_
  refine am_i2l (am_dec tmL_draw 6 rfl) ?_
  refine am_last2 (n := 1) (i := 0) (D2 := am_wL D1 2637 0 v.toInt64) hE (am_dec tmL_draw 7 rfl) shq_2637 (k_pl (k := 0) _ (by decide) (by decide)) ?_
  refine am_goto (tgt := 25) (am_dec tmL_draw 8 rfl) (by decide) ?_
  refine am_iconst (v := (0 : Int32)) (am_dec tmL_draw 18 rfl) (by decide) ?_
  exact am_iret (am_dec tmL_draw 19 rfl) rfl (Nat.zero_le _) (Nat.zero_le _)
set_option maxRecDepth 100000 in
set_option maxHeartbeats 4000000 in
theorem xw_draw_1 {E : am_E} (hE : am_EH E) {p1 p2 : Int32} {D D1 : am_D} (hf : f_X11_draw p1 p2 D = some (.inl ("java/util/NoSuchElementException", D1))) : am_C E mL_draw 7 1 6 [.ref 16, .int p1, .int p2, .ref 2637] am_G0 D (.inl (some (.int 1))) am_G0 D1 := by
  refine am_C_of (by decide +kernel) (Nat.le_of_ble_eq_true rfl) ?_
  change am_S E mL_draw 7 1 6 (.inl (some (.int 1))) am_G0 D1 0 0 0 [(0, .ref 16), (1, .int p1), (2, .int p2), (3, .ref 2637)] [] am_G0 D
  refine am_aload_n (am_dec tmL_draw 0 rfl) rfl rfl ?_
  refine am_iconst (v := (0 : Int32)) (am_dec tmL_draw 1 rfl) (by decide) ?_
  refine am_aload_n (am_dec tmL_draw 2 rfl) rfl rfl ?_
  refine am_iload_n (am_dec tmL_draw 3 rfl) rfl rfl ?_
  refine am_iload_n (am_dec tmL_draw 4 rfl) rfl rfl ?_
  refine am_callV_catch (As := [.int p1, .int p2]) (st := [.int 0, .ref 2637]) (pre := []) (suf := [(0, 10, 17, 30), (0, 10, 21, 45)]) (x := (0, 10, 13, 21)) (i := 4) (np := 15) hE (am_dec tmL_draw 5 rfl) ok_X11_draw rfl lmL_42 in_X11_draw se_X11_draw sh_16 cf11 (t_X11_draw hE hf) rfl (by decide) (Nat.le_of_ble_eq_true rfl) (Nat.le_refl _) (Nat.le_refl _) rfl rfl (fun z hz => nomatch hz) (by decide) (by decide) lcL_NSE lcs_NSE (Or.inr ⟨(am_dec tmL_draw 9 rfl), rfl⟩) (by decide) ?_
  refine am_iconst (v := (1 : Int32)) (am_dec tmL_draw 10 rfl) (by decide) ?_
  exact am_iret (am_dec tmL_draw 11 rfl) rfl (Nat.le_refl _) (Nat.le_refl _)
set_option maxRecDepth 100000 in
set_option maxHeartbeats 4000000 in
theorem xw_draw_2 {E : am_E} (hE : am_EH E) {p1 p2 : Int32} {D D1 : am_D} (hf : f_X11_draw p1 p2 D = some (.inl ("java/lang/IndexOutOfBoundsException", D1))) : am_C E mL_draw 7 1 6 [.ref 16, .int p1, .int p2, .ref 2637] am_G0 D (.inl (some (.int 2))) am_G0 D1 := by
  refine am_C_of (by decide +kernel) (Nat.le_of_ble_eq_true rfl) ?_
  change am_S E mL_draw 7 1 6 (.inl (some (.int 2))) am_G0 D1 0 0 0 [(0, .ref 16), (1, .int p1), (2, .int p2), (3, .ref 2637)] [] am_G0 D
  refine am_aload_n (am_dec tmL_draw 0 rfl) rfl rfl ?_
  refine am_iconst (v := (0 : Int32)) (am_dec tmL_draw 1 rfl) (by decide) ?_
  refine am_aload_n (am_dec tmL_draw 2 rfl) rfl rfl ?_
  refine am_iload_n (am_dec tmL_draw 3 rfl) rfl rfl ?_
  refine am_iload_n (am_dec tmL_draw 4 rfl) rfl rfl ?_
  refine am_callV_catch (As := [.int p1, .int p2]) (st := [.int 0, .ref 2637]) (pre := [(0, 10, 13, 21)]) (suf := [(0, 10, 21, 45)]) (x := (0, 10, 17, 30)) (i := 4) (np := 19) hE (am_dec tmL_draw 5 rfl) ok_X11_draw rfl lmL_42 in_X11_draw se_X11_draw sh_16 cf11 (t_X11_draw hE hf) rfl (by decide) (Nat.le_of_ble_eq_true rfl) (Nat.le_refl _) (Nat.le_refl _) rfl rfl (List.forall_mem_cons.mpr ⟨⟨by decide, "java/util/NoSuchElementException", lcL_NSE, lnc_IOB_NSE⟩, (fun z hz => nomatch hz)⟩) (by decide) (by decide) lcL_IOB lcs_IOB (Or.inr ⟨(am_dec tmL_draw 12 rfl), rfl⟩) (by decide) ?_
  refine am_iconst (v := (2 : Int32)) (am_dec tmL_draw 13 rfl) (by decide) ?_
  exact am_iret (am_dec tmL_draw 14 rfl) rfl (Nat.le_refl _) (Nat.le_refl _)
set_option maxRecDepth 100000 in
set_option maxHeartbeats 4000000 in
theorem xw_draw_3 {E : am_E} (hE : am_EH E) {p1 p2 : Int32} {D D1 : am_D} (hf : f_X11_draw p1 p2 D = some (.inl ("java/lang/IllegalStateException", D1))) : am_C E mL_draw 7 1 6 [.ref 16, .int p1, .int p2, .ref 2637] am_G0 D (.inl (some (.int 3))) am_G0 D1 := by
  refine am_C_of (by decide +kernel) (Nat.le_of_ble_eq_true rfl) ?_
  change am_S E mL_draw 7 1 6 (.inl (some (.int 3))) am_G0 D1 0 0 0 [(0, .ref 16), (1, .int p1), (2, .int p2), (3, .ref 2637)] [] am_G0 D
  refine am_aload_n (am_dec tmL_draw 0 rfl) rfl rfl ?_
  refine am_iconst (v := (0 : Int32)) (am_dec tmL_draw 1 rfl) (by decide) ?_
  refine am_aload_n (am_dec tmL_draw 2 rfl) rfl rfl ?_
  refine am_iload_n (am_dec tmL_draw 3 rfl) rfl rfl ?_
  refine am_iload_n (am_dec tmL_draw 4 rfl) rfl rfl ?_
  refine am_callV_catch (As := [.int p1, .int p2]) (st := [.int 0, .ref 2637]) (pre := [(0, 10, 13, 21), (0, 10, 17, 30)]) (suf := []) (x := (0, 10, 21, 45)) (i := 4) (np := 23) hE (am_dec tmL_draw 5 rfl) ok_X11_draw rfl lmL_42 in_X11_draw se_X11_draw sh_16 cf11 (t_X11_draw hE hf) rfl (by decide) (Nat.le_of_ble_eq_true rfl) (Nat.le_refl _) (Nat.le_refl _) rfl rfl (List.forall_mem_cons.mpr ⟨⟨by decide, "java/util/NoSuchElementException", lcL_NSE, lnc_ISE_NSE⟩, (List.forall_mem_cons.mpr ⟨⟨by decide, "java/lang/IndexOutOfBoundsException", lcL_IOB, lnc_ISE_IOB⟩, (fun z hz => nomatch hz)⟩)⟩) (by decide) (by decide) lcL_ISE lcs_ISE (Or.inr ⟨(am_dec tmL_draw 15 rfl), rfl⟩) (by decide) ?_
  refine am_iconst (v := (3 : Int32)) (am_dec tmL_draw 16 rfl) (by decide) ?_
  exact am_iret (am_dec tmL_draw 17 rfl) rfl (Nat.le_refl _) (Nat.le_refl _)
set_option maxRecDepth 100000 in
set_option maxHeartbeats 4000000 in
theorem cw_sharp {E : am_E} (hE : am_EH E) {p1 p2 : Int32} {D D1 : am_D} {v : Int32} (hf : f_X11_sharp p1 p2 D = some (.inr (v, D1))) : am_C E mL_sharp 7 1 6 [.ref 16, .int p1, .int p2, .ref 2637] am_G0 D (.inl (some (.int 0))) am_G0 (am_wL D1 2637 0 v.toInt64) := by
  refine am_C_of (by decide +kernel) (Nat.le_of_ble_eq_true rfl) ?_
  change am_S E mL_sharp 7 1 6 (.inl (some (.int 0))) am_G0 (am_wL D1 2637 0 v.toInt64) 0 0 0 [(0, .ref 16), (1, .int p1), (2, .int p2), (3, .ref 2637)] [] am_G0 D
  refine am_aload_n (am_dec tmL_sharp 0 rfl) rfl rfl ?_
  refine am_iconst (v := (0 : Int32)) (am_dec tmL_sharp 1 rfl) (by decide) ?_
  refine am_aload_n (am_dec tmL_sharp 2 rfl) rfl rfl ?_
  refine am_iload_n (am_dec tmL_sharp 3 rfl) rfl rfl ?_
  refine am_iload_n (am_dec tmL_sharp 4 rfl) rfl rfl ?_
  refine am_callV1 (As := [.int p1, .int p2]) (st := [.int 0, .ref 2637]) hE (am_dec tmL_sharp 5 rfl) ok_X11_sharp rfl lmL_47 in_X11_sharp se_X11_sharp sh_16 cf11 (c_X11_sharp hE hf) rfl (by decide) (Nat.le_of_ble_eq_true rfl) (Nat.zero_le _) (Nat.zero_le _) rfl ?_
  refine am_i2l (am_dec tmL_sharp 6 rfl) ?_
  refine am_last2 (n := 1) (i := 0) (D2 := am_wL D1 2637 0 v.toInt64) hE (am_dec tmL_sharp 7 rfl) shq_2637 (k_pl (k := 0) _ (by decide) (by decide)) ?_
  refine am_goto (tgt := 25) (am_dec tmL_sharp 8 rfl) (by decide) ?_
  refine am_iconst (v := (0 : Int32)) (am_dec tmL_sharp 18 rfl) (by decide) ?_
  exact am_iret (am_dec tmL_sharp 19 rfl) rfl (Nat.zero_le _) (Nat.zero_le _)
set_option maxRecDepth 100000 in
set_option maxHeartbeats 4000000 in
theorem xw_sharp_1 {E : am_E} (hE : am_EH E) {p1 p2 : Int32} {D D1 : am_D} (hf : f_X11_sharp p1 p2 D = some (.inl ("java/util/NoSuchElementException", D1))) : am_C E mL_sharp 7 1 6 [.ref 16, .int p1, .int p2, .ref 2637] am_G0 D (.inl (some (.int 1))) am_G0 D1 := by
  refine am_C_of (by decide +kernel) (Nat.le_of_ble_eq_true rfl) ?_
  change am_S E mL_sharp 7 1 6 (.inl (some (.int 1))) am_G0 D1 0 0 0 [(0, .ref 16), (1, .int p1), (2, .int p2), (3, .ref 2637)] [] am_G0 D
  refine am_aload_n (am_dec tmL_sharp 0 rfl) rfl rfl ?_
  refine am_iconst (v := (0 : Int32)) (am_dec tmL_sharp 1 rfl) (by decide) ?_
  refine am_aload_n (am_dec tmL_sharp 2 rfl) rfl rfl ?_
  refine am_iload_n (am_dec tmL_sharp 3 rfl) rfl rfl ?_
  refine am_iload_n (am_dec tmL_sharp 4 rfl) rfl rfl ?_
  refine am_callV_catch (As := [.int p1, .int p2]) (st := [.int 0, .ref 2637]) (pre := []) (suf := [(0, 10, 17, 30), (0, 10, 21, 45)]) (x := (0, 10, 13, 21)) (i := 4) (np := 15) hE (am_dec tmL_sharp 5 rfl) ok_X11_sharp rfl lmL_47 in_X11_sharp se_X11_sharp sh_16 cf11 (t_X11_sharp hE hf) rfl (by decide) (Nat.le_of_ble_eq_true rfl) (Nat.le_refl _) (Nat.le_refl _) rfl rfl (fun z hz => nomatch hz) (by decide) (by decide) lcL_NSE lcs_NSE (Or.inr ⟨(am_dec tmL_sharp 9 rfl), rfl⟩) (by decide) ?_
  refine am_iconst (v := (1 : Int32)) (am_dec tmL_sharp 10 rfl) (by decide) ?_
  exact am_iret (am_dec tmL_sharp 11 rfl) rfl (Nat.le_refl _) (Nat.le_refl _)
set_option maxRecDepth 100000 in
set_option maxHeartbeats 4000000 in
theorem xw_sharp_2 {E : am_E} (hE : am_EH E) {p1 p2 : Int32} {D D1 : am_D} (hf : f_X11_sharp p1 p2 D = some (.inl ("java/lang/IndexOutOfBoundsException", D1))) : am_C E mL_sharp 7 1 6 [.ref 16, .int p1, .int p2, .ref 2637] am_G0 D (.inl (some (.int 2))) am_G0 D1 := by
  refine am_C_of (by decide +kernel) (Nat.le_of_ble_eq_true rfl) ?_
  change am_S E mL_sharp 7 1 6 (.inl (some (.int 2))) am_G0 D1 0 0 0 [(0, .ref 16), (1, .int p1), (2, .int p2), (3, .ref 2637)] [] am_G0 D
  refine am_aload_n (am_dec tmL_sharp 0 rfl) rfl rfl ?_
  refine am_iconst (v := (0 : Int32)) (am_dec tmL_sharp 1 rfl) (by decide) ?_
  refine am_aload_n (am_dec tmL_sharp 2 rfl) rfl rfl ?_
  refine am_iload_n (am_dec tmL_sharp 3 rfl) rfl rfl ?_
  refine am_iload_n (am_dec tmL_sharp 4 rfl) rfl rfl ?_
  refine am_callV_catch (As := [.int p1, .int p2]) (st := [.int 0, .ref 2637]) (pre := [(0, 10, 13, 21)]) (suf := [(0, 10, 21, 45)]) (x := (0, 10, 17, 30)) (i := 4) (np := 19) hE (am_dec tmL_sharp 5 rfl) ok_X11_sharp rfl lmL_47 in_X11_sharp se_X11_sharp sh_16 cf11 (t_X11_sharp hE hf) rfl (by decide) (Nat.le_of_ble_eq_true rfl) (Nat.le_refl _) (Nat.le_refl _) rfl rfl (List.forall_mem_cons.mpr ⟨⟨by decide, "java/util/NoSuchElementException", lcL_NSE, lnc_IOB_NSE⟩, (fun z hz => nomatch hz)⟩) (by decide) (by decide) lcL_IOB lcs_IOB (Or.inr ⟨(am_dec tmL_sharp 12 rfl), rfl⟩) (by decide) ?_
  refine am_iconst (v := (2 : Int32)) (am_dec tmL_sharp 13 rfl) (by decide) ?_
  exact am_iret (am_dec tmL_sharp 14 rfl) rfl (Nat.le_refl _) (Nat.le_refl _)
set_option maxRecDepth 100000 in
set_option maxHeartbeats 4000000 in
theorem xw_sharp_3 {E : am_E} (hE : am_EH E) {p1 p2 : Int32} {D D1 : am_D} (hf : f_X11_sharp p1 p2 D = some (.inl ("java/lang/IllegalStateException", D1))) : am_C E mL_sharp 7 1 6 [.ref 16, .int p1, .int p2, .ref 2637] am_G0 D (.inl (some (.int 3))) am_G0 D1 := by
  refine am_C_of (by decide +kernel) (Nat.le_of_ble_eq_true rfl) ?_
  change am_S E mL_sharp 7 1 6 (.inl (some (.int 3))) am_G0 D1 0 0 0 [(0, .ref 16), (1, .int p1), (2, .int p2), (3, .ref 2637)] [] am_G0 D
  refine am_aload_n (am_dec tmL_sharp 0 rfl) rfl rfl ?_
  refine am_iconst (v := (0 : Int32)) (am_dec tmL_sharp 1 rfl) (by decide) ?_
  refine am_aload_n (am_dec tmL_sharp 2 rfl) rfl rfl ?_
  refine am_iload_n (am_dec tmL_sharp 3 rfl) rfl rfl ?_
  refine am_iload_n (am_dec tmL_sharp 4 rfl) rfl rfl ?_
  refine am_callV_catch (As := [.int p1, .int p2]) (st := [.int 0, .ref 2637]) (pre := [(0, 10, 13, 21), (0, 10, 17, 30)]) (suf := []) (x := (0, 10, 21, 45)) (i := 4) (np := 23) hE (am_dec tmL_sharp 5 rfl) ok_X11_sharp rfl lmL_47 in_X11_sharp se_X11_sharp sh_16 cf11 (t_X11_sharp hE hf) rfl (by decide) (Nat.le_of_ble_eq_true rfl) (Nat.le_refl _) (Nat.le_refl _) rfl rfl (List.forall_mem_cons.mpr ⟨⟨by decide, "java/util/NoSuchElementException", lcL_NSE, lnc_ISE_NSE⟩, (List.forall_mem_cons.mpr ⟨⟨by decide, "java/lang/IndexOutOfBoundsException", lcL_IOB, lnc_ISE_IOB⟩, (fun z hz => nomatch hz)⟩)⟩) (by decide) (by decide) lcL_ISE lcs_ISE (Or.inr ⟨(am_dec tmL_sharp 15 rfl), rfl⟩) (by decide) ?_
  refine am_iconst (v := (3 : Int32)) (am_dec tmL_sharp 16 rfl) (by decide) ?_
  exact am_iret (am_dec tmL_sharp 17 rfl) rfl (Nat.le_refl _) (Nat.le_refl _)
set_option maxRecDepth 100000 in
set_option maxHeartbeats 4000000 in
theorem cw_seam {E : am_E} (hE : am_EH E) {p1 p2 : Int32} {D D1 : am_D} {v : Int32} (hf : k_lf D (f_X11_seam p1 p2 D) = some (.inr (v, D1))) : am_C E mL_seam 3 1 6 [.ref 16, .int p1, .int p2, .ref 2637] am_G0 D (.inl (some (.int 0))) am_G0 (am_wL D1 2637 0 v.toInt64) := by
  refine am_C_of (by decide +kernel) (Nat.le_of_ble_eq_true rfl) ?_
  change am_S E mL_seam 3 1 6 (.inl (some (.int 0))) am_G0 (am_wL D1 2637 0 v.toInt64) 0 0 0 [(0, .ref 16), (1, .int p1), (2, .int p2), (3, .ref 2637)] [] am_G0 D
  obtain ⟨h9, rfl⟩ := k_lf_r hf
  have hf := h9
  refine am_aload_n (am_dec tmL_seam 0 rfl) rfl rfl ?_
  refine am_iconst (v := (0 : Int32)) (am_dec tmL_seam 1 rfl) (by decide) ?_
  refine am_aload_n (am_dec tmL_seam 2 rfl) rfl rfl ?_
  refine am_iload_n (am_dec tmL_seam 3 rfl) rfl rfl ?_
  refine am_iload_n (am_dec tmL_seam 4 rfl) rfl rfl ?_
  refine am_callV1 (As := [.int p1, .int p2]) (st := [.int 0, .ref 2637]) hE (am_dec tmL_seam 5 rfl) ok_X11_seam rfl lmL_50 in_X11_seam se_X11_seam sh_16 cf11 (c_X11_seam hE hf) rfl (by decide) (Nat.le_of_ble_eq_true rfl) (Nat.zero_le _) (Nat.zero_le _) rfl ?_
  refine am_i2l (am_dec tmL_seam 6 rfl) ?_
  refine am_last2 (n := 1) (i := 0) (D2 := am_wL D1 2637 0 v.toInt64) hE (am_dec tmL_seam 7 rfl) shq_2637 (k_pl (k := 0) _ (by decide) (by decide)) ?_
  refine am_goto (tgt := 17) (am_dec tmL_seam 8 rfl) (by decide) ?_
  refine am_iconst (v := (0 : Int32)) (am_dec tmL_seam 12 rfl) (by decide) ?_
  exact am_iret (am_dec tmL_seam 13 rfl) rfl (Nat.zero_le _) (Nat.zero_le _)
set_option maxRecDepth 100000 in
set_option maxHeartbeats 4000000 in
theorem xw_seam_1 {E : am_E} (hE : am_EH E) {p1 p2 : Int32} {D D1 : am_D} (hf : k_lf D (f_X11_seam p1 p2 D) = some (.inl ("java/lang/IllegalArgumentException", D1))) : am_C E mL_seam 3 1 6 [.ref 16, .int p1, .int p2, .ref 2637] am_G0 D (.inl (some (.int 1))) am_G0 D1 := by
  refine am_C_of (by decide +kernel) (Nat.le_of_ble_eq_true rfl) ?_
  change am_S E mL_seam 3 1 6 (.inl (some (.int 1))) am_G0 D1 0 0 0 [(0, .ref 16), (1, .int p1), (2, .int p2), (3, .ref 2637)] [] am_G0 D
  obtain ⟨h9, rfl⟩ := k_lf_l hf
  have hf := h9
  refine am_aload_n (am_dec tmL_seam 0 rfl) rfl rfl ?_
  refine am_iconst (v := (0 : Int32)) (am_dec tmL_seam 1 rfl) (by decide) ?_
  refine am_aload_n (am_dec tmL_seam 2 rfl) rfl rfl ?_
  refine am_iload_n (am_dec tmL_seam 3 rfl) rfl rfl ?_
  refine am_iload_n (am_dec tmL_seam 4 rfl) rfl rfl ?_
  refine am_callV_catch (As := [.int p1, .int p2]) (st := [.int 0, .ref 2637]) (pre := []) (suf := []) (x := (0, 10, 13, 13)) (i := 4) (np := 15) hE (am_dec tmL_seam 5 rfl) ok_X11_seam rfl lmL_50 in_X11_seam se_X11_seam sh_16 cf11 (t_X11_seam hE hf) rfl (by decide) (Nat.le_of_ble_eq_true rfl) (Nat.le_refl _) (Nat.le_refl _) rfl rfl (fun z hz => nomatch hz) (by decide) (by decide) lcL_IAE lcs_IAE (Or.inr ⟨(am_dec tmL_seam 9 rfl), rfl⟩) (by decide) ?_
  refine am_iconst (v := (1 : Int32)) (am_dec tmL_seam 10 rfl) (by decide) ?_
  exact am_iret (am_dec tmL_seam 11 rfl) rfl (Nat.le_refl _) (Nat.le_refl _)
set_option maxRecDepth 100000 in
set_option maxHeartbeats 4000000 in
theorem cw_blowing {E : am_E} (hE : am_EH E) {p1 p2 p3 : Int32} {D D1 : am_D} {v : Int32} (hf : f_X11_blowing p1 p2 p3 D = some (.inr (v, D1))) : am_C E mL_blowing 3 1 6 [.ref 16, .int p1, .int p2, .int p3, .ref 2637] am_G0 D (.inl (some (.int 0))) am_G0 (am_wL D1 2637 0 v.toInt64) := by
  refine am_C_of (by decide +kernel) (Nat.le_of_ble_eq_true rfl) ?_
  change am_S E mL_blowing 3 1 6 (.inl (some (.int 0))) am_G0 (am_wL D1 2637 0 v.toInt64) 0 0 0 [(0, .ref 16), (1, .int p1), (2, .int p2), (3, .int p3), (4, .ref 2637)] [] am_G0 D
  refine am_aload (am_dec tmL_blowing 0 rfl) rfl ?_
  refine am_iconst (v := (0 : Int32)) (am_dec tmL_blowing 1 rfl) (by decide) ?_
  refine am_aload_n (am_dec tmL_blowing 2 rfl) rfl rfl ?_
  refine am_iload_n (am_dec tmL_blowing 3 rfl) rfl rfl ?_
  refine am_iload_n (am_dec tmL_blowing 4 rfl) rfl rfl ?_
  refine am_iload_n (am_dec tmL_blowing 5 rfl) rfl rfl ?_
  refine am_callV1 (As := [.int p1, .int p2, .int p3]) (st := [.int 0, .ref 2637]) hE (am_dec tmL_blowing 6 rfl) ok_X11_blowing rfl lmL_53 in_X11_blowing se_X11_blowing sh_16 cf11 (c_X11_blowing hE hf) rfl (by decide) (Nat.le_of_ble_eq_true rfl) (Nat.zero_le _) (Nat.zero_le _) rfl ?_
  refine am_i2l (am_dec tmL_blowing 7 rfl) ?_
  refine am_last2 (n := 1) (i := 0) (D2 := am_wL D1 2637 0 v.toInt64) hE (am_dec tmL_blowing 8 rfl) shq_2637 (k_pl (k := 0) _ (by decide) (by decide)) ?_
  refine am_goto (tgt := 19) (am_dec tmL_blowing 9 rfl) (by decide) ?_
  refine am_iconst (v := (0 : Int32)) (am_dec tmL_blowing 13 rfl) (by decide) ?_
  exact am_iret (am_dec tmL_blowing 14 rfl) rfl (Nat.zero_le _) (Nat.zero_le _)
set_option maxRecDepth 100000 in
set_option maxHeartbeats 4000000 in
theorem xw_blowing_1 {E : am_E} (hE : am_EH E) {p1 p2 p3 : Int32} {D D1 : am_D} (hf : f_X11_blowing p1 p2 p3 D = some (.inl ("java/lang/IllegalArgumentException", D1))) : am_C E mL_blowing 3 1 6 [.ref 16, .int p1, .int p2, .int p3, .ref 2637] am_G0 D (.inl (some (.int 1))) am_G0 D1 := by
  refine am_C_of (by decide +kernel) (Nat.le_of_ble_eq_true rfl) ?_
  change am_S E mL_blowing 3 1 6 (.inl (some (.int 1))) am_G0 D1 0 0 0 [(0, .ref 16), (1, .int p1), (2, .int p2), (3, .int p3), (4, .ref 2637)] [] am_G0 D
  refine am_aload (am_dec tmL_blowing 0 rfl) rfl ?_
  refine am_iconst (v := (0 : Int32)) (am_dec tmL_blowing 1 rfl) (by decide) ?_
  refine am_aload_n (am_dec tmL_blowing 2 rfl) rfl rfl ?_
  refine am_iload_n (am_dec tmL_blowing 3 rfl) rfl rfl ?_
  refine am_iload_n (am_dec tmL_blowing 4 rfl) rfl rfl ?_
  refine am_iload_n (am_dec tmL_blowing 5 rfl) rfl rfl ?_
  refine am_callV_catch (As := [.int p1, .int p2, .int p3]) (st := [.int 0, .ref 2637]) (pre := []) (suf := []) (x := (0, 12, 15, 13)) (i := 5) (np := 17) hE (am_dec tmL_blowing 6 rfl) ok_X11_blowing rfl lmL_53 in_X11_blowing se_X11_blowing sh_16 cf11 (t_X11_blowing hE hf) rfl (by decide) (Nat.le_of_ble_eq_true rfl) (Nat.le_refl _) (Nat.le_refl _) rfl rfl (fun z hz => nomatch hz) (by decide) (by decide) lcL_IAE lcs_IAE (Or.inr ⟨(am_dec tmL_blowing 10 rfl), rfl⟩) (by decide) ?_
  refine am_iconst (v := (1 : Int32)) (am_dec tmL_blowing 11 rfl) (by decide) ?_
  exact am_iret (am_dec tmL_blowing 12 rfl) rfl (Nat.le_refl _) (Nat.le_refl _)
set_option maxRecDepth 100000 in
set_option maxHeartbeats 4000000 in
theorem cw_blow {E : am_E} (hE : am_EH E) {p1 p2 : Int32} {D D1 : am_D} {v : Int32} (hf : f_X11_blow p1 p2 D = some (.inr (v, D1))) : am_C E mL_blow 6 1 6 [.ref 16, .int p1, .int p2, .ref 2637] am_G0 D (.inl (some (.int 0))) am_G0 (am_wL D1 2637 0 v.toInt64) := by
  refine am_C_of (by decide +kernel) (Nat.le_of_ble_eq_true rfl) ?_
  change am_S E mL_blow 6 1 6 (.inl (some (.int 0))) am_G0 (am_wL D1 2637 0 v.toInt64) 0 0 0 [(0, .ref 16), (1, .int p1), (2, .int p2), (3, .ref 2637)] [] am_G0 D
  refine am_aload_n (am_dec tmL_blow 0 rfl) rfl rfl ?_
  refine am_iconst (v := (0 : Int32)) (am_dec tmL_blow 1 rfl) (by decide) ?_
  refine am_aload_n (am_dec tmL_blow 2 rfl) rfl rfl ?_
  refine am_iload_n (am_dec tmL_blow 3 rfl) rfl rfl ?_
  refine am_iload_n (am_dec tmL_blow 4 rfl) rfl rfl ?_
  refine am_callV1 (As := [.int p1, .int p2]) (st := [.int 0, .ref 2637]) hE (am_dec tmL_blow 5 rfl) ok_X11_blow rfl lmL_56 in_X11_blow se_X11_blow sh_16 cf11 (c_X11_blow hE hf) rfl (by decide) (Nat.le_of_ble_eq_true rfl) (Nat.zero_le _) (Nat.zero_le _) rfl ?_
  refine am_i2l (am_dec tmL_blow 6 rfl) ?_
  refine am_last2 (n := 1) (i := 0) (D2 := am_wL D1 2637 0 v.toInt64) hE (am_dec tmL_blow 7 rfl) shq_2637 (k_pl (k := 0) _ (by decide) (by decide)) ?_
  refine am_goto (tgt := 17) (am_dec tmL_blow 8 rfl) (by decide) ?_
  refine am_iconst (v := (0 : Int32)) (am_dec tmL_blow 12 rfl) (by decide) ?_
  exact am_iret (am_dec tmL_blow 13 rfl) rfl (Nat.zero_le _) (Nat.zero_le _)
set_option maxRecDepth 100000 in
set_option maxHeartbeats 4000000 in
theorem xw_blow_1 {E : am_E} (hE : am_EH E) {p1 p2 : Int32} {D D1 : am_D} (hf : f_X11_blow p1 p2 D = some (.inl ("java/util/NoSuchElementException", D1))) : am_C E mL_blow 6 1 6 [.ref 16, .int p1, .int p2, .ref 2637] am_G0 D (.inl (some (.int 1))) am_G0 D1 := by
  refine am_C_of (by decide +kernel) (Nat.le_of_ble_eq_true rfl) ?_
  change am_S E mL_blow 6 1 6 (.inl (some (.int 1))) am_G0 D1 0 0 0 [(0, .ref 16), (1, .int p1), (2, .int p2), (3, .ref 2637)] [] am_G0 D
  refine am_aload_n (am_dec tmL_blow 0 rfl) rfl rfl ?_
  refine am_iconst (v := (0 : Int32)) (am_dec tmL_blow 1 rfl) (by decide) ?_
  refine am_aload_n (am_dec tmL_blow 2 rfl) rfl rfl ?_
  refine am_iload_n (am_dec tmL_blow 3 rfl) rfl rfl ?_
  refine am_iload_n (am_dec tmL_blow 4 rfl) rfl rfl ?_
  refine am_callV_catch (As := [.int p1, .int p2]) (st := [.int 0, .ref 2637]) (pre := []) (suf := []) (x := (0, 10, 13, 21)) (i := 4) (np := 15) hE (am_dec tmL_blow 5 rfl) ok_X11_blow rfl lmL_56 in_X11_blow se_X11_blow sh_16 cf11 (t_X11_blow hE hf) rfl (by decide) (Nat.le_of_ble_eq_true rfl) (Nat.le_refl _) (Nat.le_refl _) rfl rfl (fun z hz => nomatch hz) (by decide) (by decide) lcL_NSE lcs_NSE (Or.inr ⟨(am_dec tmL_blow 9 rfl), rfl⟩) (by decide) ?_
  refine am_iconst (v := (1 : Int32)) (am_dec tmL_blow 10 rfl) (by decide) ?_
  exact am_iret (am_dec tmL_blow 11 rfl) rfl (Nat.le_refl _) (Nat.le_refl _)
set_option maxRecDepth 100000 in
set_option maxHeartbeats 4000000 in
theorem cw_harm {E : am_E} (hE : am_EH E) {p1 : Int32} {D D1 : am_D} {v : Int32} (hf : f_X11_harm p1 D = some (.inr (v, D1))) : am_C E mL_harm 8 1 6 [.ref 16, .int p1, .ref 2637] am_G0 D (.inl (some (.int 0))) am_G0 (am_wL D1 2637 0 v.toInt64) := by
  refine am_C_of (by decide +kernel) (Nat.le_of_ble_eq_true rfl) ?_
  change am_S E mL_harm 8 1 6 (.inl (some (.int 0))) am_G0 (am_wL D1 2637 0 v.toInt64) 0 0 0 [(0, .ref 16), (1, .int p1), (2, .ref 2637)] [] am_G0 D
  refine am_aload_n (am_dec tmL_harm 0 rfl) rfl rfl ?_
  refine am_iconst (v := (0 : Int32)) (am_dec tmL_harm 1 rfl) (by decide) ?_
  refine am_aload_n (am_dec tmL_harm 2 rfl) rfl rfl ?_
  refine am_iload_n (am_dec tmL_harm 3 rfl) rfl rfl ?_
  refine am_callV1 (As := [.int p1]) (st := [.int 0, .ref 2637]) hE (am_dec tmL_harm 4 rfl) ok_X11_harm rfl lmL_59 in_X11_harm se_X11_harm sh_16 cf11 (c_X11_harm hE hf) rfl (by decide) (Nat.le_of_ble_eq_true rfl) (Nat.zero_le _) (Nat.zero_le _) rfl ?_
  refine am_i2l (am_dec tmL_harm 5 rfl) ?_
  refine am_last2 (n := 1) (i := 0) (D2 := am_wL D1 2637 0 v.toInt64) hE (am_dec tmL_harm 6 rfl) shq_2637 (k_pl (k := 0) _ (by decide) (by decide)) ?_
  refine am_goto (tgt := 15) (am_dec tmL_harm 7 rfl) (by decide) ?_
  refine am_iconst (v := (0 : Int32)) (am_dec tmL_harm 11 rfl) (by decide) ?_
  exact am_iret (am_dec tmL_harm 12 rfl) rfl (Nat.zero_le _) (Nat.zero_le _)
set_option maxRecDepth 100000 in
set_option maxHeartbeats 4000000 in
theorem xw_harm_1 {E : am_E} (hE : am_EH E) {p1 : Int32} {D D1 : am_D} (hf : f_X11_harm p1 D = some (.inl ("java/lang/IllegalArgumentException", D1))) : am_C E mL_harm 8 1 6 [.ref 16, .int p1, .ref 2637] am_G0 D (.inl (some (.int 1))) am_G0 D1 := by
  refine am_C_of (by decide +kernel) (Nat.le_of_ble_eq_true rfl) ?_
  change am_S E mL_harm 8 1 6 (.inl (some (.int 1))) am_G0 D1 0 0 0 [(0, .ref 16), (1, .int p1), (2, .ref 2637)] [] am_G0 D
  refine am_aload_n (am_dec tmL_harm 0 rfl) rfl rfl ?_
  refine am_iconst (v := (0 : Int32)) (am_dec tmL_harm 1 rfl) (by decide) ?_
  refine am_aload_n (am_dec tmL_harm 2 rfl) rfl rfl ?_
  refine am_iload_n (am_dec tmL_harm 3 rfl) rfl rfl ?_
  refine am_callV_catch (As := [.int p1]) (st := [.int 0, .ref 2637]) (pre := []) (suf := []) (x := (0, 9, 12, 13)) (i := 3) (np := 13) hE (am_dec tmL_harm 4 rfl) ok_X11_harm rfl lmL_59 in_X11_harm se_X11_harm sh_16 cf11 (t_X11_harm hE hf) rfl (by decide) (Nat.le_of_ble_eq_true rfl) (Nat.le_refl _) (Nat.le_refl _) rfl rfl (fun z hz => nomatch hz) (by decide) (by decide) lcL_IAE lcs_IAE (Or.inl ⟨3, (am_dec tmL_harm 8 rfl), rfl, rfl⟩) (by decide) ?_
  refine am_iconst (v := (1 : Int32)) (am_dec tmL_harm 9 rfl) (by decide) ?_
  exact am_iret (am_dec tmL_harm 10 rfl) rfl (Nat.le_refl _) (Nat.le_refl _)
set_option maxRecDepth 100000 in
set_option maxHeartbeats 4000000 in
theorem cw_weigh {E : am_E} (hE : am_EH E) {p1 p2 : Int32} {D D1 : am_D} {v : Int32} (hf : f_X11_weigh p1 p2 D = some (.inr (v, D1))) : am_C E mL_weigh 3 1 6 [.ref 16, .int p1, .int p2, .ref 2637] am_G0 D (.inl (some (.int 0))) am_G0 (am_wL D1 2637 0 v.toInt64) := by
  refine am_C_of (by decide +kernel) (Nat.le_of_ble_eq_true rfl) ?_
  change am_S E mL_weigh 3 1 6 (.inl (some (.int 0))) am_G0 (am_wL D1 2637 0 v.toInt64) 0 0 0 [(0, .ref 16), (1, .int p1), (2, .int p2), (3, .ref 2637)] [] am_G0 D
  refine am_aload_n (am_dec tmL_weigh 0 rfl) rfl rfl ?_
  refine am_iconst (v := (0 : Int32)) (am_dec tmL_weigh 1 rfl) (by decide) ?_
  refine am_aload_n (am_dec tmL_weigh 2 rfl) rfl rfl ?_
  refine am_iload_n (am_dec tmL_weigh 3 rfl) rfl rfl ?_
  refine am_iload_n (am_dec tmL_weigh 4 rfl) rfl rfl ?_
  refine am_callV1 (As := [.int p1, .int p2]) (st := [.int 0, .ref 2637]) hE (am_dec tmL_weigh 5 rfl) ok_X11_weigh rfl lmL_62 in_X11_weigh se_X11_weigh sh_16 cf11 (c_X11_weigh hE hf) rfl (by decide) (Nat.le_of_ble_eq_true rfl) (Nat.zero_le _) (Nat.zero_le _) rfl ?_
  refine am_i2l (am_dec tmL_weigh 6 rfl) ?_
  refine am_last2 (n := 1) (i := 0) (D2 := am_wL D1 2637 0 v.toInt64) hE (am_dec tmL_weigh 7 rfl) shq_2637 (k_pl (k := 0) _ (by decide) (by decide)) ?_
  refine am_goto (tgt := 17) (am_dec tmL_weigh 8 rfl) (by decide) ?_
  refine am_iconst (v := (0 : Int32)) (am_dec tmL_weigh 12 rfl) (by decide) ?_
  exact am_iret (am_dec tmL_weigh 13 rfl) rfl (Nat.zero_le _) (Nat.zero_le _)
set_option maxRecDepth 100000 in
set_option maxHeartbeats 4000000 in
theorem xw_weigh_1 {E : am_E} (hE : am_EH E) {p1 p2 : Int32} {D D1 : am_D} (hf : f_X11_weigh p1 p2 D = some (.inl ("java/lang/IllegalArgumentException", D1))) : am_C E mL_weigh 3 1 6 [.ref 16, .int p1, .int p2, .ref 2637] am_G0 D (.inl (some (.int 1))) am_G0 D1 := by
  refine am_C_of (by decide +kernel) (Nat.le_of_ble_eq_true rfl) ?_
  change am_S E mL_weigh 3 1 6 (.inl (some (.int 1))) am_G0 D1 0 0 0 [(0, .ref 16), (1, .int p1), (2, .int p2), (3, .ref 2637)] [] am_G0 D
  refine am_aload_n (am_dec tmL_weigh 0 rfl) rfl rfl ?_
  refine am_iconst (v := (0 : Int32)) (am_dec tmL_weigh 1 rfl) (by decide) ?_
  refine am_aload_n (am_dec tmL_weigh 2 rfl) rfl rfl ?_
  refine am_iload_n (am_dec tmL_weigh 3 rfl) rfl rfl ?_
  refine am_iload_n (am_dec tmL_weigh 4 rfl) rfl rfl ?_
  refine am_callV_catch (As := [.int p1, .int p2]) (st := [.int 0, .ref 2637]) (pre := []) (suf := []) (x := (0, 10, 13, 13)) (i := 4) (np := 15) hE (am_dec tmL_weigh 5 rfl) ok_X11_weigh rfl lmL_62 in_X11_weigh se_X11_weigh sh_16 cf11 (t_X11_weigh hE hf) rfl (by decide) (Nat.le_of_ble_eq_true rfl) (Nat.le_refl _) (Nat.le_refl _) rfl rfl (fun z hz => nomatch hz) (by decide) (by decide) lcL_IAE lcs_IAE (Or.inr ⟨(am_dec tmL_weigh 9 rfl), rfl⟩) (by decide) ?_
  refine am_iconst (v := (1 : Int32)) (am_dec tmL_weigh 10 rfl) (by decide) ?_
  exact am_iret (am_dec tmL_weigh 11 rfl) rfl (Nat.le_refl _) (Nat.le_refl _)
set_option maxRecDepth 100000 in
set_option maxHeartbeats 4000000 in
theorem cw_way {E : am_E} (hE : am_EH E) {p1 p2 p3 : Int32} {D D1 : am_D} {v : Int32} (hf : f_X11_way p1 p2 p3 D = some (.inr (v, D1))) : am_C E mL_way 4 1 6 [.ref 16, .int p1, .int p2, .int p3, .ref 2637] am_G0 D (.inl (some (.int 0))) am_G0 (am_wL D1 2637 0 v.toInt64) := by
  refine am_C_of (by decide +kernel) (Nat.le_of_ble_eq_true rfl) ?_
  change am_S E mL_way 4 1 6 (.inl (some (.int 0))) am_G0 (am_wL D1 2637 0 v.toInt64) 0 0 0 [(0, .ref 16), (1, .int p1), (2, .int p2), (3, .int p3), (4, .ref 2637)] [] am_G0 D
  refine am_aload (am_dec tmL_way 0 rfl) rfl ?_
  refine am_iconst (v := (0 : Int32)) (am_dec tmL_way 1 rfl) (by decide) ?_
  refine am_aload_n (am_dec tmL_way 2 rfl) rfl rfl ?_
  refine am_iload_n (am_dec tmL_way 3 rfl) rfl rfl ?_
  refine am_iload_n (am_dec tmL_way 4 rfl) rfl rfl ?_
  refine am_iload_n (am_dec tmL_way 5 rfl) rfl rfl ?_
  refine am_callV1 (As := [.int p1, .int p2, .int p3]) (st := [.int 0, .ref 2637]) hE (am_dec tmL_way 6 rfl) ok_X11_way rfl lmL_65 in_X11_way se_X11_way sh_16 cf11 (c_X11_way hE hf) rfl (by decide) (Nat.le_of_ble_eq_true rfl) (Nat.zero_le _) (Nat.zero_le _) rfl ?_
  refine am_i2l (am_dec tmL_way 7 rfl) ?_
  refine am_last2 (n := 1) (i := 0) (D2 := am_wL D1 2637 0 v.toInt64) hE (am_dec tmL_way 8 rfl) shq_2637 (k_pl (k := 0) _ (by decide) (by decide)) ?_
  refine am_goto (tgt := 19) (am_dec tmL_way 9 rfl) (by decide) ?_
  refine am_iconst (v := (0 : Int32)) (am_dec tmL_way 13 rfl) (by decide) ?_
  exact am_iret (am_dec tmL_way 14 rfl) rfl (Nat.zero_le _) (Nat.zero_le _)
set_option maxRecDepth 100000 in
set_option maxHeartbeats 4000000 in
theorem xw_way_1 {E : am_E} (hE : am_EH E) {p1 p2 p3 : Int32} {D D1 : am_D} (hf : f_X11_way p1 p2 p3 D = some (.inl ("java/lang/IllegalArgumentException", D1))) : am_C E mL_way 4 1 6 [.ref 16, .int p1, .int p2, .int p3, .ref 2637] am_G0 D (.inl (some (.int 1))) am_G0 D1 := by
  refine am_C_of (by decide +kernel) (Nat.le_of_ble_eq_true rfl) ?_
  change am_S E mL_way 4 1 6 (.inl (some (.int 1))) am_G0 D1 0 0 0 [(0, .ref 16), (1, .int p1), (2, .int p2), (3, .int p3), (4, .ref 2637)] [] am_G0 D
  refine am_aload (am_dec tmL_way 0 rfl) rfl ?_
  refine am_iconst (v := (0 : Int32)) (am_dec tmL_way 1 rfl) (by decide) ?_
  refine am_aload_n (am_dec tmL_way 2 rfl) rfl rfl ?_
  refine am_iload_n (am_dec tmL_way 3 rfl) rfl rfl ?_
  refine am_iload_n (am_dec tmL_way 4 rfl) rfl rfl ?_
  refine am_iload_n (am_dec tmL_way 5 rfl) rfl rfl ?_
  refine am_callV_catch (As := [.int p1, .int p2, .int p3]) (st := [.int 0, .ref 2637]) (pre := []) (suf := []) (x := (0, 12, 15, 13)) (i := 5) (np := 17) hE (am_dec tmL_way 6 rfl) ok_X11_way rfl lmL_65 in_X11_way se_X11_way sh_16 cf11 (t_X11_way hE hf) rfl (by decide) (Nat.le_of_ble_eq_true rfl) (Nat.le_refl _) (Nat.le_refl _) rfl rfl (fun z hz => nomatch hz) (by decide) (by decide) lcL_IAE lcs_IAE (Or.inr ⟨(am_dec tmL_way 10 rfl), rfl⟩) (by decide) ?_
  refine am_iconst (v := (1 : Int32)) (am_dec tmL_way 11 rfl) (by decide) ?_
  exact am_iret (am_dec tmL_way 12 rfl) rfl (Nat.le_refl _) (Nat.le_refl _)
set_option maxRecDepth 100000 in
set_option maxHeartbeats 4000000 in
theorem cw_best {E : am_E} (hE : am_EH E) {p1 p2 : Int32} {D D1 : am_D} {v : Int32} (hf : f_X11_best p1 p2 D = some (.inr (v, D1))) : am_C E mL_best 8 1 6 [.ref 16, .int p1, .int p2, .ref 2637] am_G0 D (.inl (some (.int 0))) am_G0 (am_wL D1 2637 0 v.toInt64) := by
  refine am_C_of (by decide +kernel) (Nat.le_of_ble_eq_true rfl) ?_
  change am_S E mL_best 8 1 6 (.inl (some (.int 0))) am_G0 (am_wL D1 2637 0 v.toInt64) 0 0 0 [(0, .ref 16), (1, .int p1), (2, .int p2), (3, .ref 2637)] [] am_G0 D
  refine am_aload_n (am_dec tmL_best 0 rfl) rfl rfl ?_
  refine am_iconst (v := (0 : Int32)) (am_dec tmL_best 1 rfl) (by decide) ?_
  refine am_aload_n (am_dec tmL_best 2 rfl) rfl rfl ?_
  refine am_iload_n (am_dec tmL_best 3 rfl) rfl rfl ?_
  refine am_iload_n (am_dec tmL_best 4 rfl) rfl rfl ?_
  refine am_callV1 (As := [.int p1, .int p2]) (st := [.int 0, .ref 2637]) hE (am_dec tmL_best 5 rfl) ok_X11_best rfl lmL_68 in_X11_best se_X11_best sh_16 cf11 (c_X11_best hE hf) rfl (by decide) (Nat.le_of_ble_eq_true rfl) (Nat.zero_le _) (Nat.zero_le _) rfl ?_
  refine am_i2l (am_dec tmL_best 6 rfl) ?_
  refine am_last2 (n := 1) (i := 0) (D2 := am_wL D1 2637 0 v.toInt64) hE (am_dec tmL_best 7 rfl) shq_2637 (k_pl (k := 0) _ (by decide) (by decide)) ?_
  refine am_goto (tgt := 25) (am_dec tmL_best 8 rfl) (by decide) ?_
  refine am_iconst (v := (0 : Int32)) (am_dec tmL_best 18 rfl) (by decide) ?_
  exact am_iret (am_dec tmL_best 19 rfl) rfl (Nat.zero_le _) (Nat.zero_le _)
set_option maxRecDepth 100000 in
set_option maxHeartbeats 4000000 in
theorem xw_best_1 {E : am_E} (hE : am_EH E) {p1 p2 : Int32} {D D1 : am_D} (hf : f_X11_best p1 p2 D = some (.inl ("java/util/NoSuchElementException", D1))) : am_C E mL_best 8 1 6 [.ref 16, .int p1, .int p2, .ref 2637] am_G0 D (.inl (some (.int 1))) am_G0 D1 := by
  refine am_C_of (by decide +kernel) (Nat.le_of_ble_eq_true rfl) ?_
  change am_S E mL_best 8 1 6 (.inl (some (.int 1))) am_G0 D1 0 0 0 [(0, .ref 16), (1, .int p1), (2, .int p2), (3, .ref 2637)] [] am_G0 D
  refine am_aload_n (am_dec tmL_best 0 rfl) rfl rfl ?_
  refine am_iconst (v := (0 : Int32)) (am_dec tmL_best 1 rfl) (by decide) ?_
  refine am_aload_n (am_dec tmL_best 2 rfl) rfl rfl ?_
  refine am_iload_n (am_dec tmL_best 3 rfl) rfl rfl ?_
  refine am_iload_n (am_dec tmL_best 4 rfl) rfl rfl ?_
  refine am_callV_catch (As := [.int p1, .int p2]) (st := [.int 0, .ref 2637]) (pre := []) (suf := [(0, 10, 17, 30), (0, 10, 21, 45)]) (x := (0, 10, 13, 21)) (i := 4) (np := 15) hE (am_dec tmL_best 5 rfl) ok_X11_best rfl lmL_68 in_X11_best se_X11_best sh_16 cf11 (t_X11_best hE hf) rfl (by decide) (Nat.le_of_ble_eq_true rfl) (Nat.le_refl _) (Nat.le_refl _) rfl rfl (fun z hz => nomatch hz) (by decide) (by decide) lcL_NSE lcs_NSE (Or.inr ⟨(am_dec tmL_best 9 rfl), rfl⟩) (by decide) ?_
  refine am_iconst (v := (1 : Int32)) (am_dec tmL_best 10 rfl) (by decide) ?_
  exact am_iret (am_dec tmL_best 11 rfl) rfl (Nat.le_refl _) (Nat.le_refl _)
set_option maxRecDepth 100000 in
set_option maxHeartbeats 4000000 in
theorem xw_best_2 {E : am_E} (hE : am_EH E) {p1 p2 : Int32} {D D1 : am_D} (hf : f_X11_best p1 p2 D = some (.inl ("java/lang/IndexOutOfBoundsException", D1))) : am_C E mL_best 8 1 6 [.ref 16, .int p1, .int p2, .ref 2637] am_G0 D (.inl (some (.int 2))) am_G0 D1 := by
  refine am_C_of (by decide +kernel) (Nat.le_of_ble_eq_true rfl) ?_
  change am_S E mL_best 8 1 6 (.inl (some (.int 2))) am_G0 D1 0 0 0 [(0, .ref 16), (1, .int p1), (2, .int p2), (3, .ref 2637)] [] am_G0 D
  refine am_aload_n (am_dec tmL_best 0 rfl) rfl rfl ?_
  refine am_iconst (v := (0 : Int32)) (am_dec tmL_best 1 rfl) (by decide) ?_
  refine am_aload_n (am_dec tmL_best 2 rfl) rfl rfl ?_
  refine am_iload_n (am_dec tmL_best 3 rfl) rfl rfl ?_
  refine am_iload_n (am_dec tmL_best 4 rfl) rfl rfl ?_
  refine am_callV_catch (As := [.int p1, .int p2]) (st := [.int 0, .ref 2637]) (pre := [(0, 10, 13, 21)]) (suf := [(0, 10, 21, 45)]) (x := (0, 10, 17, 30)) (i := 4) (np := 19) hE (am_dec tmL_best 5 rfl) ok_X11_best rfl lmL_68 in_X11_best se_X11_best sh_16 cf11 (t_X11_best hE hf) rfl (by decide) (Nat.le_of_ble_eq_true rfl) (Nat.le_refl _) (Nat.le_refl _) rfl rfl (List.forall_mem_cons.mpr ⟨⟨by decide, "java/util/NoSuchElementException", lcL_NSE, lnc_IOB_NSE⟩, (fun z hz => nomatch hz)⟩) (by decide) (by decide) lcL_IOB lcs_IOB (Or.inr ⟨(am_dec tmL_best 12 rfl), rfl⟩) (by decide) ?_
  refine am_iconst (v := (2 : Int32)) (am_dec tmL_best 13 rfl) (by decide) ?_
  exact am_iret (am_dec tmL_best 14 rfl) rfl (Nat.le_refl _) (Nat.le_refl _)
set_option maxRecDepth 100000 in
set_option maxHeartbeats 4000000 in
theorem xw_best_3 {E : am_E} (hE : am_EH E) {p1 p2 : Int32} {D D1 : am_D} (hf : f_X11_best p1 p2 D = some (.inl ("java/lang/IllegalStateException", D1))) : am_C E mL_best 8 1 6 [.ref 16, .int p1, .int p2, .ref 2637] am_G0 D (.inl (some (.int 3))) am_G0 D1 := by
  refine am_C_of (by decide +kernel) (Nat.le_of_ble_eq_true rfl) ?_
  change am_S E mL_best 8 1 6 (.inl (some (.int 3))) am_G0 D1 0 0 0 [(0, .ref 16), (1, .int p1), (2, .int p2), (3, .ref 2637)] [] am_G0 D
  refine am_aload_n (am_dec tmL_best 0 rfl) rfl rfl ?_
  refine am_iconst (v := (0 : Int32)) (am_dec tmL_best 1 rfl) (by decide) ?_
  refine am_aload_n (am_dec tmL_best 2 rfl) rfl rfl ?_
  refine am_iload_n (am_dec tmL_best 3 rfl) rfl rfl ?_
  refine am_iload_n (am_dec tmL_best 4 rfl) rfl rfl ?_
  refine am_callV_catch (As := [.int p1, .int p2]) (st := [.int 0, .ref 2637]) (pre := [(0, 10, 13, 21), (0, 10, 17, 30)]) (suf := []) (x := (0, 10, 21, 45)) (i := 4) (np := 23) hE (am_dec tmL_best 5 rfl) ok_X11_best rfl lmL_68 in_X11_best se_X11_best sh_16 cf11 (t_X11_best hE hf) rfl (by decide) (Nat.le_of_ble_eq_true rfl) (Nat.le_refl _) (Nat.le_refl _) rfl rfl (List.forall_mem_cons.mpr ⟨⟨by decide, "java/util/NoSuchElementException", lcL_NSE, lnc_ISE_NSE⟩, (List.forall_mem_cons.mpr ⟨⟨by decide, "java/lang/IndexOutOfBoundsException", lcL_IOB, lnc_ISE_IOB⟩, (fun z hz => nomatch hz)⟩)⟩) (by decide) (by decide) lcL_ISE lcs_ISE (Or.inr ⟨(am_dec tmL_best 15 rfl), rfl⟩) (by decide) ?_
  refine am_iconst (v := (3 : Int32)) (am_dec tmL_best 16 rfl) (by decide) ?_
  exact am_iret (am_dec tmL_best 17 rfl) rfl (Nat.le_refl _) (Nat.le_refl _)
set_option maxRecDepth 100000 in
set_option maxHeartbeats 4000000 in
theorem cw_bestOf {E : am_E} (hE : am_EH E) {p1 p2 p3 : Int32} {D D1 : am_D} {v : Int32} (hf : f_X11_bestOf p1 p2 p3 D = some (.inr (v, D1))) : am_C E mL_bestOf 7 1 6 [.ref 16, .int p1, .int p2, .int p3, .ref 2637] am_G0 D (.inl (some (.int 0))) am_G0 (am_wL D1 2637 0 v.toInt64) := by
  refine am_C_of (by decide +kernel) (Nat.le_of_ble_eq_true rfl) ?_
  change am_S E mL_bestOf 7 1 6 (.inl (some (.int 0))) am_G0 (am_wL D1 2637 0 v.toInt64) 0 0 0 [(0, .ref 16), (1, .int p1), (2, .int p2), (3, .int p3), (4, .ref 2637)] [] am_G0 D
  refine am_aload (am_dec tmL_bestOf 0 rfl) rfl ?_
  refine am_iconst (v := (0 : Int32)) (am_dec tmL_bestOf 1 rfl) (by decide) ?_
  refine am_aload_n (am_dec tmL_bestOf 2 rfl) rfl rfl ?_
  refine am_iload_n (am_dec tmL_bestOf 3 rfl) rfl rfl ?_
  refine am_iload_n (am_dec tmL_bestOf 4 rfl) rfl rfl ?_
  refine am_iload_n (am_dec tmL_bestOf 5 rfl) rfl rfl ?_
  refine am_callV1 (As := [.int p1, .int p2, .int p3]) (st := [.int 0, .ref 2637]) hE (am_dec tmL_bestOf 6 rfl) ok_X11_bestOf rfl lmL_71 in_X11_bestOf se_X11_bestOf sh_16 cf11 (c_X11_bestOf hE hf) rfl (by decide) (Nat.le_of_ble_eq_true rfl) (Nat.zero_le _) (Nat.zero_le _) rfl ?_
  refine am_i2l (am_dec tmL_bestOf 7 rfl) ?_
  refine am_last2 (n := 1) (i := 0) (D2 := am_wL D1 2637 0 v.toInt64) hE (am_dec tmL_bestOf 8 rfl) shq_2637 (k_pl (k := 0) _ (by decide) (by decide)) ?_
  refine am_goto (tgt := 31) (am_dec tmL_bestOf 9 rfl) (by decide) ?_
  refine am_iconst (v := (0 : Int32)) (am_dec tmL_bestOf 22 rfl) (by decide) ?_
  exact am_iret (am_dec tmL_bestOf 23 rfl) rfl (Nat.zero_le _) (Nat.zero_le _)
set_option maxRecDepth 100000 in
set_option maxHeartbeats 4000000 in
theorem xw_bestOf_1 {E : am_E} (hE : am_EH E) {p1 p2 p3 : Int32} {D D1 : am_D} (hf : f_X11_bestOf p1 p2 p3 D = some (.inl ("java/util/NoSuchElementException", D1))) : am_C E mL_bestOf 7 1 6 [.ref 16, .int p1, .int p2, .int p3, .ref 2637] am_G0 D (.inl (some (.int 1))) am_G0 D1 := by
  refine am_C_of (by decide +kernel) (Nat.le_of_ble_eq_true rfl) ?_
  change am_S E mL_bestOf 7 1 6 (.inl (some (.int 1))) am_G0 D1 0 0 0 [(0, .ref 16), (1, .int p1), (2, .int p2), (3, .int p3), (4, .ref 2637)] [] am_G0 D
  refine am_aload (am_dec tmL_bestOf 0 rfl) rfl ?_
  refine am_iconst (v := (0 : Int32)) (am_dec tmL_bestOf 1 rfl) (by decide) ?_
  refine am_aload_n (am_dec tmL_bestOf 2 rfl) rfl rfl ?_
  refine am_iload_n (am_dec tmL_bestOf 3 rfl) rfl rfl ?_
  refine am_iload_n (am_dec tmL_bestOf 4 rfl) rfl rfl ?_
  refine am_iload_n (am_dec tmL_bestOf 5 rfl) rfl rfl ?_
  refine am_callV_catch (As := [.int p1, .int p2, .int p3]) (st := [.int 0, .ref 2637]) (pre := []) (suf := [(0, 12, 19, 30), (0, 12, 23, 13), (0, 12, 27, 45)]) (x := (0, 12, 15, 21)) (i := 5) (np := 17) hE (am_dec tmL_bestOf 6 rfl) ok_X11_bestOf rfl lmL_71 in_X11_bestOf se_X11_bestOf sh_16 cf11 (t_X11_bestOf hE hf) rfl (by decide) (Nat.le_of_ble_eq_true rfl) (Nat.le_refl _) (Nat.le_refl _) rfl rfl (fun z hz => nomatch hz) (by decide) (by decide) lcL_NSE lcs_NSE (Or.inr ⟨(am_dec tmL_bestOf 10 rfl), rfl⟩) (by decide) ?_
  refine am_iconst (v := (1 : Int32)) (am_dec tmL_bestOf 11 rfl) (by decide) ?_
  exact am_iret (am_dec tmL_bestOf 12 rfl) rfl (Nat.le_refl _) (Nat.le_refl _)
set_option maxRecDepth 100000 in
set_option maxHeartbeats 4000000 in
theorem xw_bestOf_2 {E : am_E} (hE : am_EH E) {p1 p2 p3 : Int32} {D D1 : am_D} (hf : f_X11_bestOf p1 p2 p3 D = some (.inl ("java/lang/IndexOutOfBoundsException", D1))) : am_C E mL_bestOf 7 1 6 [.ref 16, .int p1, .int p2, .int p3, .ref 2637] am_G0 D (.inl (some (.int 2))) am_G0 D1 := by
  refine am_C_of (by decide +kernel) (Nat.le_of_ble_eq_true rfl) ?_
  change am_S E mL_bestOf 7 1 6 (.inl (some (.int 2))) am_G0 D1 0 0 0 [(0, .ref 16), (1, .int p1), (2, .int p2), (3, .int p3), (4, .ref 2637)] [] am_G0 D
  refine am_aload (am_dec tmL_bestOf 0 rfl) rfl ?_
  refine am_iconst (v := (0 : Int32)) (am_dec tmL_bestOf 1 rfl) (by decide) ?_
  refine am_aload_n (am_dec tmL_bestOf 2 rfl) rfl rfl ?_
  refine am_iload_n (am_dec tmL_bestOf 3 rfl) rfl rfl ?_
  refine am_iload_n (am_dec tmL_bestOf 4 rfl) rfl rfl ?_
  refine am_iload_n (am_dec tmL_bestOf 5 rfl) rfl rfl ?_
  refine am_callV_catch (As := [.int p1, .int p2, .int p3]) (st := [.int 0, .ref 2637]) (pre := [(0, 12, 15, 21)]) (suf := [(0, 12, 23, 13), (0, 12, 27, 45)]) (x := (0, 12, 19, 30)) (i := 5) (np := 21) hE (am_dec tmL_bestOf 6 rfl) ok_X11_bestOf rfl lmL_71 in_X11_bestOf se_X11_bestOf sh_16 cf11 (t_X11_bestOf hE hf) rfl (by decide) (Nat.le_of_ble_eq_true rfl) (Nat.le_refl _) (Nat.le_refl _) rfl rfl (List.forall_mem_cons.mpr ⟨⟨by decide, "java/util/NoSuchElementException", lcL_NSE, lnc_IOB_NSE⟩, (fun z hz => nomatch hz)⟩) (by decide) (by decide) lcL_IOB lcs_IOB (Or.inr ⟨(am_dec tmL_bestOf 13 rfl), rfl⟩) (by decide) ?_
  refine am_iconst (v := (2 : Int32)) (am_dec tmL_bestOf 14 rfl) (by decide) ?_
  exact am_iret (am_dec tmL_bestOf 15 rfl) rfl (Nat.le_refl _) (Nat.le_refl _)
set_option maxRecDepth 100000 in
set_option maxHeartbeats 4000000 in
theorem xw_bestOf_3 {E : am_E} (hE : am_EH E) {p1 p2 p3 : Int32} {D D1 : am_D} (hf : f_X11_bestOf p1 p2 p3 D = some (.inl ("java/lang/IllegalArgumentException", D1))) : am_C E mL_bestOf 7 1 6 [.ref 16, .int p1, .int p2, .int p3, .ref 2637] am_G0 D (.inl (some (.int 3))) am_G0 D1 := by
  refine am_C_of (by decide +kernel) (Nat.le_of_ble_eq_true rfl) ?_
  change am_S E mL_bestOf 7 1 6 (.inl (some (.int 3))) am_G0 D1 0 0 0 [(0, .ref 16), (1, .int p1), (2, .int p2), (3, .int p3), (4, .ref 2637)] [] am_G0 D
  refine am_aload (am_dec tmL_bestOf 0 rfl) rfl ?_
  refine am_iconst (v := (0 : Int32)) (am_dec tmL_bestOf 1 rfl) (by decide) ?_
  refine am_aload_n (am_dec tmL_bestOf 2 rfl) rfl rfl ?_
  refine am_iload_n (am_dec tmL_bestOf 3 rfl) rfl rfl ?_
  refine am_iload_n (am_dec tmL_bestOf 4 rfl) rfl rfl ?_
  refine am_iload_n (am_dec tmL_bestOf 5 rfl) rfl rfl ?_
  refine am_callV_catch (As := [.int p1, .int p2, .int p3]) (st := [.int 0, .ref 2637]) (pre := [(0, 12, 15, 21), (0, 12, 19, 30)]) (suf := [(0, 12, 27, 45)]) (x := (0, 12, 23, 13)) (i := 5) (np := 25) hE (am_dec tmL_bestOf 6 rfl) ok_X11_bestOf rfl lmL_71 in_X11_bestOf se_X11_bestOf sh_16 cf11 (t_X11_bestOf hE hf) rfl (by decide) (Nat.le_of_ble_eq_true rfl) (Nat.le_refl _) (Nat.le_refl _) rfl rfl (List.forall_mem_cons.mpr ⟨⟨by decide, "java/util/NoSuchElementException", lcL_NSE, lnc_IAE_NSE⟩, (List.forall_mem_cons.mpr ⟨⟨by decide, "java/lang/IndexOutOfBoundsException", lcL_IOB, lnc_IAE_IOB⟩, (fun z hz => nomatch hz)⟩)⟩) (by decide) (by decide) lcL_IAE lcs_IAE (Or.inr ⟨(am_dec tmL_bestOf 16 rfl), rfl⟩) (by decide) ?_
  refine am_iconst (v := (3 : Int32)) (am_dec tmL_bestOf 17 rfl) (by decide) ?_
  exact am_iret (am_dec tmL_bestOf 18 rfl) rfl (Nat.le_refl _) (Nat.le_refl _)
set_option maxRecDepth 100000 in
set_option maxHeartbeats 4000000 in
theorem xw_bestOf_4 {E : am_E} (hE : am_EH E) {p1 p2 p3 : Int32} {D D1 : am_D} (hf : f_X11_bestOf p1 p2 p3 D = some (.inl ("java/lang/IllegalStateException", D1))) : am_C E mL_bestOf 7 1 6 [.ref 16, .int p1, .int p2, .int p3, .ref 2637] am_G0 D (.inl (some (.int 4))) am_G0 D1 := by
  refine am_C_of (by decide +kernel) (Nat.le_of_ble_eq_true rfl) ?_
  change am_S E mL_bestOf 7 1 6 (.inl (some (.int 4))) am_G0 D1 0 0 0 [(0, .ref 16), (1, .int p1), (2, .int p2), (3, .int p3), (4, .ref 2637)] [] am_G0 D
  refine am_aload (am_dec tmL_bestOf 0 rfl) rfl ?_
  refine am_iconst (v := (0 : Int32)) (am_dec tmL_bestOf 1 rfl) (by decide) ?_
  refine am_aload_n (am_dec tmL_bestOf 2 rfl) rfl rfl ?_
  refine am_iload_n (am_dec tmL_bestOf 3 rfl) rfl rfl ?_
  refine am_iload_n (am_dec tmL_bestOf 4 rfl) rfl rfl ?_
  refine am_iload_n (am_dec tmL_bestOf 5 rfl) rfl rfl ?_
  refine am_callV_catch (As := [.int p1, .int p2, .int p3]) (st := [.int 0, .ref 2637]) (pre := [(0, 12, 15, 21), (0, 12, 19, 30), (0, 12, 23, 13)]) (suf := []) (x := (0, 12, 27, 45)) (i := 5) (np := 29) hE (am_dec tmL_bestOf 6 rfl) ok_X11_bestOf rfl lmL_71 in_X11_bestOf se_X11_bestOf sh_16 cf11 (t_X11_bestOf hE hf) rfl (by decide) (Nat.le_of_ble_eq_true rfl) (Nat.le_refl _) (Nat.le_refl _) rfl rfl (List.forall_mem_cons.mpr ⟨⟨by decide, "java/util/NoSuchElementException", lcL_NSE, lnc_ISE_NSE⟩, (List.forall_mem_cons.mpr ⟨⟨by decide, "java/lang/IndexOutOfBoundsException", lcL_IOB, lnc_ISE_IOB⟩, (List.forall_mem_cons.mpr ⟨⟨by decide, "java/lang/IllegalArgumentException", lcL_IAE, lnc_ISE_IAE⟩, (fun z hz => nomatch hz)⟩)⟩)⟩) (by decide) (by decide) lcL_ISE lcs_ISE (Or.inr ⟨(am_dec tmL_bestOf 19 rfl), rfl⟩) (by decide) ?_
  refine am_iconst (v := (4 : Int32)) (am_dec tmL_bestOf 20 rfl) (by decide) ?_
  exact am_iret (am_dec tmL_bestOf 21 rfl) rfl (Nat.le_refl _) (Nat.le_refl _)
set_option maxRecDepth 100000 in
set_option maxHeartbeats 4000000 in
theorem cw_part {E : am_E} (hE : am_EH E) {p1 p2 p3 p4 : Int32} {D D1 : am_D} {v : Int32} (hf : f_X11_part p1 p2 p3 p4 D = some (.inr (v, D1))) : am_C E mL_part 3 1 6 [.ref 16, .int p1, .int p2, .int p3, .int p4, .ref 2637] am_G0 D (.inl (some (.int 0))) am_G0 (am_wL D1 2637 0 v.toInt64) := by
  refine am_C_of (by decide +kernel) (Nat.le_of_ble_eq_true rfl) ?_
  change am_S E mL_part 3 1 6 (.inl (some (.int 0))) am_G0 (am_wL D1 2637 0 v.toInt64) 0 0 0 [(0, .ref 16), (1, .int p1), (2, .int p2), (3, .int p3), (4, .int p4), (5, .ref 2637)] [] am_G0 D
  refine am_aload (am_dec tmL_part 0 rfl) rfl ?_
  refine am_iconst (v := (0 : Int32)) (am_dec tmL_part 1 rfl) (by decide) ?_
  refine am_aload_n (am_dec tmL_part 2 rfl) rfl rfl ?_
  refine am_iload_n (am_dec tmL_part 3 rfl) rfl rfl ?_
  refine am_iload_n (am_dec tmL_part 4 rfl) rfl rfl ?_
  refine am_iload_n (am_dec tmL_part 5 rfl) rfl rfl ?_
  refine am_iload (am_dec tmL_part 6 rfl) rfl ?_
  refine am_callV1 (As := [.int p1, .int p2, .int p3, .int p4]) (st := [.int 0, .ref 2637]) hE (am_dec tmL_part 7 rfl) ok_X11_part rfl lmL_74 in_X11_part se_X11_part sh_16 cf11 (c_X11_part hE hf) rfl (by decide) (Nat.le_of_ble_eq_true rfl) (Nat.zero_le _) (Nat.zero_le _) rfl ?_
  refine am_i2l (am_dec tmL_part 8 rfl) ?_
  refine am_last2 (n := 1) (i := 0) (D2 := am_wL D1 2637 0 v.toInt64) hE (am_dec tmL_part 9 rfl) shq_2637 (k_pl (k := 0) _ (by decide) (by decide)) ?_
  refine am_goto (tgt := 21) (am_dec tmL_part 10 rfl) (by decide) ?_
  refine am_iconst (v := (0 : Int32)) (am_dec tmL_part 14 rfl) (by decide) ?_
  exact am_iret (am_dec tmL_part 15 rfl) rfl (Nat.zero_le _) (Nat.zero_le _)
set_option maxRecDepth 100000 in
set_option maxHeartbeats 4000000 in
theorem xw_part_1 {E : am_E} (hE : am_EH E) {p1 p2 p3 p4 : Int32} {D D1 : am_D} (hf : f_X11_part p1 p2 p3 p4 D = some (.inl ("java/lang/IllegalArgumentException", D1))) : am_C E mL_part 3 1 6 [.ref 16, .int p1, .int p2, .int p3, .int p4, .ref 2637] am_G0 D (.inl (some (.int 1))) am_G0 D1 := by
  refine am_C_of (by decide +kernel) (Nat.le_of_ble_eq_true rfl) ?_
  change am_S E mL_part 3 1 6 (.inl (some (.int 1))) am_G0 D1 0 0 0 [(0, .ref 16), (1, .int p1), (2, .int p2), (3, .int p3), (4, .int p4), (5, .ref 2637)] [] am_G0 D
  refine am_aload (am_dec tmL_part 0 rfl) rfl ?_
  refine am_iconst (v := (0 : Int32)) (am_dec tmL_part 1 rfl) (by decide) ?_
  refine am_aload_n (am_dec tmL_part 2 rfl) rfl rfl ?_
  refine am_iload_n (am_dec tmL_part 3 rfl) rfl rfl ?_
  refine am_iload_n (am_dec tmL_part 4 rfl) rfl rfl ?_
  refine am_iload_n (am_dec tmL_part 5 rfl) rfl rfl ?_
  refine am_iload (am_dec tmL_part 6 rfl) rfl ?_
  refine am_callV_catch (As := [.int p1, .int p2, .int p3, .int p4]) (st := [.int 0, .ref 2637]) (pre := []) (suf := []) (x := (0, 14, 17, 13)) (i := 6) (np := 19) hE (am_dec tmL_part 7 rfl) ok_X11_part rfl lmL_74 in_X11_part se_X11_part sh_16 cf11 (t_X11_part hE hf) rfl (by decide) (Nat.le_of_ble_eq_true rfl) (Nat.le_refl _) (Nat.le_refl _) rfl rfl (fun z hz => nomatch hz) (by decide) (by decide) lcL_IAE lcs_IAE (Or.inr ⟨(am_dec tmL_part 11 rfl), rfl⟩) (by decide) ?_
  refine am_iconst (v := (1 : Int32)) (am_dec tmL_part 12 rfl) (by decide) ?_
  exact am_iret (am_dec tmL_part 13 rfl) rfl (Nat.le_refl _) (Nat.le_refl _)
set_option maxRecDepth 100000 in
set_option maxHeartbeats 4000000 in
theorem cw_planned {E : am_E} (hE : am_EH E) {p1 p2 : Int32} {D D1 : am_D} {v : Int32} (hf : f_X11_planned p1 p2 D = some (.inr (v, D1))) : am_C E mL_planned 4 1 6 [.ref 16, .int p1, .int p2, .ref 2637] am_G0 D (.inl (some (.int 0))) am_G0 (am_wL D1 2637 0 v.toInt64) := by
  refine am_C_of (by decide +kernel) (Nat.le_of_ble_eq_true rfl) ?_
  change am_S E mL_planned 4 1 6 (.inl (some (.int 0))) am_G0 (am_wL D1 2637 0 v.toInt64) 0 0 0 [(0, .ref 16), (1, .int p1), (2, .int p2), (3, .ref 2637)] [] am_G0 D
  refine am_aload_n (am_dec tmL_planned 0 rfl) rfl rfl ?_
  refine am_iconst (v := (0 : Int32)) (am_dec tmL_planned 1 rfl) (by decide) ?_
  refine am_aload_n (am_dec tmL_planned 2 rfl) rfl rfl ?_
  refine am_iload_n (am_dec tmL_planned 3 rfl) rfl rfl ?_
  refine am_iload_n (am_dec tmL_planned 4 rfl) rfl rfl ?_
  refine am_callV1 (As := [.int p1, .int p2]) (st := [.int 0, .ref 2637]) hE (am_dec tmL_planned 5 rfl) ok_X11_planned rfl lmL_78 in_X11_planned se_X11_planned sh_16 cf11 (c_X11_planned hE hf) rfl (by decide) (Nat.le_of_ble_eq_true rfl) (Nat.zero_le _) (Nat.zero_le _) rfl ?_
  refine am_i2l (am_dec tmL_planned 6 rfl) ?_
  refine am_last2 (n := 1) (i := 0) (D2 := am_wL D1 2637 0 v.toInt64) hE (am_dec tmL_planned 7 rfl) shq_2637 (k_pl (k := 0) _ (by decide) (by decide)) ?_
  refine am_goto (tgt := 17) (am_dec tmL_planned 8 rfl) (by decide) ?_
  refine am_iconst (v := (0 : Int32)) (am_dec tmL_planned 12 rfl) (by decide) ?_
  exact am_iret (am_dec tmL_planned 13 rfl) rfl (Nat.zero_le _) (Nat.zero_le _)
set_option maxRecDepth 100000 in
set_option maxHeartbeats 4000000 in
theorem xw_planned_1 {E : am_E} (hE : am_EH E) {p1 p2 : Int32} {D D1 : am_D} (hf : f_X11_planned p1 p2 D = some (.inl ("java/lang/IllegalArgumentException", D1))) : am_C E mL_planned 4 1 6 [.ref 16, .int p1, .int p2, .ref 2637] am_G0 D (.inl (some (.int 1))) am_G0 D1 := by
  refine am_C_of (by decide +kernel) (Nat.le_of_ble_eq_true rfl) ?_
  change am_S E mL_planned 4 1 6 (.inl (some (.int 1))) am_G0 D1 0 0 0 [(0, .ref 16), (1, .int p1), (2, .int p2), (3, .ref 2637)] [] am_G0 D
  refine am_aload_n (am_dec tmL_planned 0 rfl) rfl rfl ?_
  refine am_iconst (v := (0 : Int32)) (am_dec tmL_planned 1 rfl) (by decide) ?_
  refine am_aload_n (am_dec tmL_planned 2 rfl) rfl rfl ?_
  refine am_iload_n (am_dec tmL_planned 3 rfl) rfl rfl ?_
  refine am_iload_n (am_dec tmL_planned 4 rfl) rfl rfl ?_
  refine am_callV_catch (As := [.int p1, .int p2]) (st := [.int 0, .ref 2637]) (pre := []) (suf := []) (x := (0, 10, 13, 13)) (i := 4) (np := 15) hE (am_dec tmL_planned 5 rfl) ok_X11_planned rfl lmL_78 in_X11_planned se_X11_planned sh_16 cf11 (t_X11_planned hE hf) rfl (by decide) (Nat.le_of_ble_eq_true rfl) (Nat.le_refl _) (Nat.le_refl _) rfl rfl (fun z hz => nomatch hz) (by decide) (by decide) lcL_IAE lcs_IAE (Or.inr ⟨(am_dec tmL_planned 9 rfl), rfl⟩) (by decide) ?_
  refine am_iconst (v := (1 : Int32)) (am_dec tmL_planned 10 rfl) (by decide) ?_
  exact am_iret (am_dec tmL_planned 11 rfl) rfl (Nat.le_refl _) (Nat.le_refl _)
set_option maxRecDepth 100000 in
set_option maxHeartbeats 4000000 in
theorem cw_planMap {E : am_E} (hE : am_EH E) {p1 : Int32} {D D1 : am_D} {v : Int32} (hf : f_X11_planMap p1 D = some (.inr (v, D1))) : am_C E mL_planMap 4 1 6 [.ref 16, .int p1, .ref 2637] am_G0 D (.inl (some (.int 0))) am_G0 (am_wL D1 2637 0 v.toInt64) := by
  refine am_C_of (by decide +kernel) (Nat.le_of_ble_eq_true rfl) ?_
  change am_S E mL_planMap 4 1 6 (.inl (some (.int 0))) am_G0 (am_wL D1 2637 0 v.toInt64) 0 0 0 [(0, .ref 16), (1, .int p1), (2, .ref 2637)] [] am_G0 D
  refine am_aload_n (am_dec tmL_planMap 0 rfl) rfl rfl ?_
  refine am_iconst (v := (0 : Int32)) (am_dec tmL_planMap 1 rfl) (by decide) ?_
  refine am_aload_n (am_dec tmL_planMap 2 rfl) rfl rfl ?_
  refine am_iload_n (am_dec tmL_planMap 3 rfl) rfl rfl ?_
  refine am_callV1 (As := [.int p1]) (st := [.int 0, .ref 2637]) hE (am_dec tmL_planMap 4 rfl) ok_X11_planMap rfl lmL_81 in_X11_planMap se_X11_planMap sh_16 cf11 (c_X11_planMap hE hf) rfl (by decide) (Nat.le_of_ble_eq_true rfl) (Nat.zero_le _) (Nat.zero_le _) rfl ?_
  refine am_i2l (am_dec tmL_planMap 5 rfl) ?_
  refine am_last2 (n := 1) (i := 0) (D2 := am_wL D1 2637 0 v.toInt64) hE (am_dec tmL_planMap 6 rfl) shq_2637 (k_pl (k := 0) _ (by decide) (by decide)) ?_
  refine am_goto (tgt := 15) (am_dec tmL_planMap 7 rfl) (by decide) ?_
  refine am_iconst (v := (0 : Int32)) (am_dec tmL_planMap 11 rfl) (by decide) ?_
  exact am_iret (am_dec tmL_planMap 12 rfl) rfl (Nat.zero_le _) (Nat.zero_le _)
set_option maxRecDepth 100000 in
set_option maxHeartbeats 4000000 in
theorem xw_planMap_1 {E : am_E} (hE : am_EH E) {p1 : Int32} {D D1 : am_D} (hf : f_X11_planMap p1 D = some (.inl ("java/lang/IllegalArgumentException", D1))) : am_C E mL_planMap 4 1 6 [.ref 16, .int p1, .ref 2637] am_G0 D (.inl (some (.int 1))) am_G0 D1 := by
  refine am_C_of (by decide +kernel) (Nat.le_of_ble_eq_true rfl) ?_
  change am_S E mL_planMap 4 1 6 (.inl (some (.int 1))) am_G0 D1 0 0 0 [(0, .ref 16), (1, .int p1), (2, .ref 2637)] [] am_G0 D
  refine am_aload_n (am_dec tmL_planMap 0 rfl) rfl rfl ?_
  refine am_iconst (v := (0 : Int32)) (am_dec tmL_planMap 1 rfl) (by decide) ?_
  refine am_aload_n (am_dec tmL_planMap 2 rfl) rfl rfl ?_
  refine am_iload_n (am_dec tmL_planMap 3 rfl) rfl rfl ?_
  refine am_callV_catch (As := [.int p1]) (st := [.int 0, .ref 2637]) (pre := []) (suf := []) (x := (0, 9, 12, 13)) (i := 3) (np := 13) hE (am_dec tmL_planMap 4 rfl) ok_X11_planMap rfl lmL_81 in_X11_planMap se_X11_planMap sh_16 cf11 (t_X11_planMap hE hf) rfl (by decide) (Nat.le_of_ble_eq_true rfl) (Nat.le_refl _) (Nat.le_refl _) rfl rfl (fun z hz => nomatch hz) (by decide) (by decide) lcL_IAE lcs_IAE (Or.inl ⟨3, (am_dec tmL_planMap 8 rfl), rfl, rfl⟩) (by decide) ?_
  refine am_iconst (v := (1 : Int32)) (am_dec tmL_planMap 9 rfl) (by decide) ?_
  exact am_iret (am_dec tmL_planMap 10 rfl) rfl (Nat.le_refl _) (Nat.le_refl _)
set_option maxRecDepth 100000 in
set_option maxHeartbeats 4000000 in
theorem cw_pitch {E : am_E} (hE : am_EH E) {p1 p2 p3 : Int32} {D D1 : am_D} {v : Int32} (hf : k_lf D (f_X11_pitch p1 p2 p3 D) = some (.inr (v, D1))) : am_C E mL_pitch 5 1 6 [.ref 16, .int p1, .int p2, .int p3, .ref 2637] am_G0 D (.inl (some (.int 0))) am_G0 (am_wL D1 2637 0 v.toInt64) := by
  refine am_C_of (by decide +kernel) (Nat.le_of_ble_eq_true rfl) ?_
  change am_S E mL_pitch 5 1 6 (.inl (some (.int 0))) am_G0 (am_wL D1 2637 0 v.toInt64) 0 0 0 [(0, .ref 16), (1, .int p1), (2, .int p2), (3, .int p3), (4, .ref 2637)] [] am_G0 D
  obtain ⟨h9, rfl⟩ := k_lf_r hf
  have hf := h9
  refine am_aload (am_dec tmL_pitch 0 rfl) rfl ?_
  refine am_iconst (v := (0 : Int32)) (am_dec tmL_pitch 1 rfl) (by decide) ?_
  refine am_aload_n (am_dec tmL_pitch 2 rfl) rfl rfl ?_
  refine am_iload_n (am_dec tmL_pitch 3 rfl) rfl rfl ?_
  refine am_iload_n (am_dec tmL_pitch 4 rfl) rfl rfl ?_
  refine am_iload_n (am_dec tmL_pitch 5 rfl) rfl rfl ?_
  refine am_callV1 (As := [.int p1, .int p2, .int p3]) (st := [.int 0, .ref 2637]) hE (am_dec tmL_pitch 6 rfl) ok_X11_pitch rfl lmL_84 in_X11_pitch se_X11_pitch sh_16 cf11 (c_X11_pitch hE hf) rfl (by decide) (Nat.le_of_ble_eq_true rfl) (Nat.zero_le _) (Nat.zero_le _) rfl ?_
  refine am_i2l (am_dec tmL_pitch 7 rfl) ?_
  refine am_last2 (n := 1) (i := 0) (D2 := am_wL D1 2637 0 v.toInt64) hE (am_dec tmL_pitch 8 rfl) shq_2637 (k_pl (k := 0) _ (by decide) (by decide)) ?_
  refine am_goto (tgt := 23) (am_dec tmL_pitch 9 rfl) (by decide) ?_
  refine am_iconst (v := (0 : Int32)) (am_dec tmL_pitch 16 rfl) (by decide) ?_
  exact am_iret (am_dec tmL_pitch 17 rfl) rfl (Nat.zero_le _) (Nat.zero_le _)
set_option maxRecDepth 100000 in
set_option maxHeartbeats 4000000 in
theorem xw_pitch_1 {E : am_E} (hE : am_EH E) {p1 p2 p3 : Int32} {D D1 : am_D} (hf : k_lf D (f_X11_pitch p1 p2 p3 D) = some (.inl ("java/util/NoSuchElementException", D1))) : am_C E mL_pitch 5 1 6 [.ref 16, .int p1, .int p2, .int p3, .ref 2637] am_G0 D (.inl (some (.int 1))) am_G0 D1 := by
  refine am_C_of (by decide +kernel) (Nat.le_of_ble_eq_true rfl) ?_
  change am_S E mL_pitch 5 1 6 (.inl (some (.int 1))) am_G0 D1 0 0 0 [(0, .ref 16), (1, .int p1), (2, .int p2), (3, .int p3), (4, .ref 2637)] [] am_G0 D
  obtain ⟨h9, rfl⟩ := k_lf_l hf
  have hf := h9
  refine am_aload (am_dec tmL_pitch 0 rfl) rfl ?_
  refine am_iconst (v := (0 : Int32)) (am_dec tmL_pitch 1 rfl) (by decide) ?_
  refine am_aload_n (am_dec tmL_pitch 2 rfl) rfl rfl ?_
  refine am_iload_n (am_dec tmL_pitch 3 rfl) rfl rfl ?_
  refine am_iload_n (am_dec tmL_pitch 4 rfl) rfl rfl ?_
  refine am_iload_n (am_dec tmL_pitch 5 rfl) rfl rfl ?_
  refine am_callV_catch (As := [.int p1, .int p2, .int p3]) (st := [.int 0, .ref 2637]) (pre := []) (suf := [(0, 12, 19, 13)]) (x := (0, 12, 15, 21)) (i := 5) (np := 17) hE (am_dec tmL_pitch 6 rfl) ok_X11_pitch rfl lmL_84 in_X11_pitch se_X11_pitch sh_16 cf11 (t_X11_pitch hE hf) rfl (by decide) (Nat.le_of_ble_eq_true rfl) (Nat.le_refl _) (Nat.le_refl _) rfl rfl (fun z hz => nomatch hz) (by decide) (by decide) lcL_NSE lcs_NSE (Or.inr ⟨(am_dec tmL_pitch 10 rfl), rfl⟩) (by decide) ?_
  refine am_iconst (v := (1 : Int32)) (am_dec tmL_pitch 11 rfl) (by decide) ?_
  exact am_iret (am_dec tmL_pitch 12 rfl) rfl (Nat.le_refl _) (Nat.le_refl _)
set_option maxRecDepth 100000 in
set_option maxHeartbeats 4000000 in
theorem xw_pitch_2 {E : am_E} (hE : am_EH E) {p1 p2 p3 : Int32} {D D1 : am_D} (hf : k_lf D (f_X11_pitch p1 p2 p3 D) = some (.inl ("java/lang/IllegalArgumentException", D1))) : am_C E mL_pitch 5 1 6 [.ref 16, .int p1, .int p2, .int p3, .ref 2637] am_G0 D (.inl (some (.int 2))) am_G0 D1 := by
  refine am_C_of (by decide +kernel) (Nat.le_of_ble_eq_true rfl) ?_
  change am_S E mL_pitch 5 1 6 (.inl (some (.int 2))) am_G0 D1 0 0 0 [(0, .ref 16), (1, .int p1), (2, .int p2), (3, .int p3), (4, .ref 2637)] [] am_G0 D
  obtain ⟨h9, rfl⟩ := k_lf_l hf
  have hf := h9
  refine am_aload (am_dec tmL_pitch 0 rfl) rfl ?_
  refine am_iconst (v := (0 : Int32)) (am_dec tmL_pitch 1 rfl) (by decide) ?_
  refine am_aload_n (am_dec tmL_pitch 2 rfl) rfl rfl ?_
  refine am_iload_n (am_dec tmL_pitch 3 rfl) rfl rfl ?_
  refine am_iload_n (am_dec tmL_pitch 4 rfl) rfl rfl ?_
  refine am_iload_n (am_dec tmL_pitch 5 rfl) rfl rfl ?_
  refine am_callV_catch (As := [.int p1, .int p2, .int p3]) (st := [.int 0, .ref 2637]) (pre := [(0, 12, 15, 21)]) (suf := []) (x := (0, 12, 19, 13)) (i := 5) (np := 21) hE (am_dec tmL_pitch 6 rfl) ok_X11_pitch rfl lmL_84 in_X11_pitch se_X11_pitch sh_16 cf11 (t_X11_pitch hE hf) rfl (by decide) (Nat.le_of_ble_eq_true rfl) (Nat.le_refl _) (Nat.le_refl _) rfl rfl (List.forall_mem_cons.mpr ⟨⟨by decide, "java/util/NoSuchElementException", lcL_NSE, lnc_IAE_NSE⟩, (fun z hz => nomatch hz)⟩) (by decide) (by decide) lcL_IAE lcs_IAE (Or.inr ⟨(am_dec tmL_pitch 13 rfl), rfl⟩) (by decide) ?_
  refine am_iconst (v := (2 : Int32)) (am_dec tmL_pitch 14 rfl) (by decide) ?_
  exact am_iret (am_dec tmL_pitch 15 rfl) rfl (Nat.le_refl _) (Nat.le_refl _)
set_option maxRecDepth 100000 in
set_option maxHeartbeats 4000000 in
theorem cw_turned {E : am_E} (hE : am_EH E) {p1 p2 p3 p4 p5 : Int32} {D D1 : am_D} {v : Int64} (hf : f_X11_turned p1 p2 p3 p4 p5 D = some (.inr (v, D1))) : am_C E mL_turned 4 1 6 [.ref 16, .int p1, .int p2, .int p3, .int p4, .int p5, .ref 2637] am_G0 D (.inl (some (.int 0))) am_G0 (am_wL D1 2637 0 v) := by
  refine am_C_of (by decide +kernel) (Nat.le_of_ble_eq_true rfl) ?_
  change am_S E mL_turned 4 1 6 (.inl (some (.int 0))) am_G0 (am_wL D1 2637 0 v) 0 0 0 [(0, .ref 16), (1, .int p1), (2, .int p2), (3, .int p3), (4, .int p4), (5, .int p5), (6, .ref 2637)] [] am_G0 D
  refine am_aload (am_dec tmL_turned 0 rfl) rfl ?_
  refine am_iconst (v := (0 : Int32)) (am_dec tmL_turned 1 rfl) (by decide) ?_
  refine am_aload_n (am_dec tmL_turned 2 rfl) rfl rfl ?_
  refine am_iload_n (am_dec tmL_turned 3 rfl) rfl rfl ?_
  refine am_iload_n (am_dec tmL_turned 4 rfl) rfl rfl ?_
  refine am_iload_n (am_dec tmL_turned 5 rfl) rfl rfl ?_
  refine am_iload (am_dec tmL_turned 6 rfl) rfl ?_
  refine am_iload (am_dec tmL_turned 7 rfl) rfl ?_
  refine am_callV1 (As := [.int p1, .int p2, .int p3, .int p4, .int p5]) (st := [.int 0, .ref 2637]) hE (am_dec tmL_turned 8 rfl) ok_X11_turned rfl lmL_87 in_X11_turned se_X11_turned sh_16 cf11 (c_X11_turned hE hf) rfl (by decide) (Nat.le_of_ble_eq_true rfl) (Nat.zero_le _) (Nat.zero_le _) rfl ?_
  refine am_last2 (n := 1) (i := 0) (D2 := am_wL D1 2637 0 v) hE (am_dec tmL_turned 9 rfl) shq_2637 (k_pl (k := 0) _ (by decide) (by decide)) ?_
  refine am_goto (tgt := 26) (am_dec tmL_turned 10 rfl) (by decide) ?_
  refine am_iconst (v := (0 : Int32)) (am_dec tmL_turned 17 rfl) (by decide) ?_
  exact am_iret (am_dec tmL_turned 18 rfl) rfl (Nat.zero_le _) (Nat.zero_le _)
set_option maxRecDepth 100000 in
set_option maxHeartbeats 4000000 in
theorem xw_turned_1 {E : am_E} (hE : am_EH E) {p1 p2 p3 p4 p5 : Int32} {D D1 : am_D} (hf : f_X11_turned p1 p2 p3 p4 p5 D = some (.inl ("java/util/NoSuchElementException", D1))) : am_C E mL_turned 4 1 6 [.ref 16, .int p1, .int p2, .int p3, .int p4, .int p5, .ref 2637] am_G0 D (.inl (some (.int 1))) am_G0 D1 := by
  refine am_C_of (by decide +kernel) (Nat.le_of_ble_eq_true rfl) ?_
  change am_S E mL_turned 4 1 6 (.inl (some (.int 1))) am_G0 D1 0 0 0 [(0, .ref 16), (1, .int p1), (2, .int p2), (3, .int p3), (4, .int p4), (5, .int p5), (6, .ref 2637)] [] am_G0 D
  refine am_aload (am_dec tmL_turned 0 rfl) rfl ?_
  refine am_iconst (v := (0 : Int32)) (am_dec tmL_turned 1 rfl) (by decide) ?_
  refine am_aload_n (am_dec tmL_turned 2 rfl) rfl rfl ?_
  refine am_iload_n (am_dec tmL_turned 3 rfl) rfl rfl ?_
  refine am_iload_n (am_dec tmL_turned 4 rfl) rfl rfl ?_
  refine am_iload_n (am_dec tmL_turned 5 rfl) rfl rfl ?_
  refine am_iload (am_dec tmL_turned 6 rfl) rfl ?_
  refine am_iload (am_dec tmL_turned 7 rfl) rfl ?_
  refine am_callV_catch (As := [.int p1, .int p2, .int p3, .int p4, .int p5]) (st := [.int 0, .ref 2637]) (pre := []) (suf := [(0, 15, 22, 13)]) (x := (0, 15, 18, 21)) (i := 7) (np := 20) hE (am_dec tmL_turned 8 rfl) ok_X11_turned rfl lmL_87 in_X11_turned se_X11_turned sh_16 cf11 (t_X11_turned hE hf) rfl (by decide) (Nat.le_of_ble_eq_true rfl) (Nat.le_refl _) (Nat.le_refl _) rfl rfl (fun z hz => nomatch hz) (by decide) (by decide) lcL_NSE lcs_NSE (Or.inr ⟨(am_dec tmL_turned 11 rfl), rfl⟩) (by decide) ?_
  refine am_iconst (v := (1 : Int32)) (am_dec tmL_turned 12 rfl) (by decide) ?_
  exact am_iret (am_dec tmL_turned 13 rfl) rfl (Nat.le_refl _) (Nat.le_refl _)
set_option maxRecDepth 100000 in
set_option maxHeartbeats 4000000 in
theorem xw_turned_2 {E : am_E} (hE : am_EH E) {p1 p2 p3 p4 p5 : Int32} {D D1 : am_D} (hf : f_X11_turned p1 p2 p3 p4 p5 D = some (.inl ("java/lang/IllegalArgumentException", D1))) : am_C E mL_turned 4 1 6 [.ref 16, .int p1, .int p2, .int p3, .int p4, .int p5, .ref 2637] am_G0 D (.inl (some (.int 2))) am_G0 D1 := by
  refine am_C_of (by decide +kernel) (Nat.le_of_ble_eq_true rfl) ?_
  change am_S E mL_turned 4 1 6 (.inl (some (.int 2))) am_G0 D1 0 0 0 [(0, .ref 16), (1, .int p1), (2, .int p2), (3, .int p3), (4, .int p4), (5, .int p5), (6, .ref 2637)] [] am_G0 D
  refine am_aload (am_dec tmL_turned 0 rfl) rfl ?_
  refine am_iconst (v := (0 : Int32)) (am_dec tmL_turned 1 rfl) (by decide) ?_
  refine am_aload_n (am_dec tmL_turned 2 rfl) rfl rfl ?_
  refine am_iload_n (am_dec tmL_turned 3 rfl) rfl rfl ?_
  refine am_iload_n (am_dec tmL_turned 4 rfl) rfl rfl ?_
  refine am_iload_n (am_dec tmL_turned 5 rfl) rfl rfl ?_
  refine am_iload (am_dec tmL_turned 6 rfl) rfl ?_
  refine am_iload (am_dec tmL_turned 7 rfl) rfl ?_
  refine am_callV_catch (As := [.int p1, .int p2, .int p3, .int p4, .int p5]) (st := [.int 0, .ref 2637]) (pre := [(0, 15, 18, 21)]) (suf := []) (x := (0, 15, 22, 13)) (i := 7) (np := 24) hE (am_dec tmL_turned 8 rfl) ok_X11_turned rfl lmL_87 in_X11_turned se_X11_turned sh_16 cf11 (t_X11_turned hE hf) rfl (by decide) (Nat.le_of_ble_eq_true rfl) (Nat.le_refl _) (Nat.le_refl _) rfl rfl (List.forall_mem_cons.mpr ⟨⟨by decide, "java/util/NoSuchElementException", lcL_NSE, lnc_IAE_NSE⟩, (fun z hz => nomatch hz)⟩) (by decide) (by decide) lcL_IAE lcs_IAE (Or.inr ⟨(am_dec tmL_turned 14 rfl), rfl⟩) (by decide) ?_
  refine am_iconst (v := (2 : Int32)) (am_dec tmL_turned 15 rfl) (by decide) ?_
  exact am_iret (am_dec tmL_turned 16 rfl) rfl (Nat.le_refl _) (Nat.le_refl _)
set_option maxRecDepth 100000 in
set_option maxHeartbeats 4000000 in
theorem cw_sing {E : am_E} (hE : am_EH E) {p1 p2 p3 p4 : Int32} {D D1 : am_D} {v : Int32} (hf : f_X11_sing p1 p2 p3 p4 D = some (.inr (v, D1))) : am_C E mL_sing 7 1 6 [.ref 16, .int p1, .int p2, .int p3, .int p4, .ref 2637] am_G0 D (.inl (some (.int 0))) am_G0 (am_wL D1 2637 0 v.toInt64) := by
  refine am_C_of (by decide +kernel) (Nat.le_of_ble_eq_true rfl) ?_
  change am_S E mL_sing 7 1 6 (.inl (some (.int 0))) am_G0 (am_wL D1 2637 0 v.toInt64) 0 0 0 [(0, .ref 16), (1, .int p1), (2, .int p2), (3, .int p3), (4, .int p4), (5, .ref 2637)] [] am_G0 D
  refine am_aload (am_dec tmL_sing 0 rfl) rfl ?_
  refine am_iconst (v := (0 : Int32)) (am_dec tmL_sing 1 rfl) (by decide) ?_
  refine am_aload_n (am_dec tmL_sing 2 rfl) rfl rfl ?_
  refine am_iload_n (am_dec tmL_sing 3 rfl) rfl rfl ?_
  refine am_iload_n (am_dec tmL_sing 4 rfl) rfl rfl ?_
  refine am_iload_n (am_dec tmL_sing 5 rfl) rfl rfl ?_
  refine am_iload (am_dec tmL_sing 6 rfl) rfl ?_
  refine am_callV1 (As := [.int p1, .int p2, .int p3, .int p4]) (st := [.int 0, .ref 2637]) hE (am_dec tmL_sing 7 rfl) ok_X11_sing rfl lmL_91 in_X11_sing se_X11_sing sh_16 cf11 (c_X11_sing hE hf) rfl (by decide) (Nat.le_of_ble_eq_true rfl) (Nat.zero_le _) (Nat.zero_le _) rfl ?_
  refine am_i2l (am_dec tmL_sing 8 rfl) ?_
  refine am_last2 (n := 1) (i := 0) (D2 := am_wL D1 2637 0 v.toInt64) hE (am_dec tmL_sing 9 rfl) shq_2637 (k_pl (k := 0) _ (by decide) (by decide)) ?_
  refine am_goto (tgt := 33) (am_dec tmL_sing 10 rfl) (by decide) ?_
  refine am_iconst (v := (0 : Int32)) (am_dec tmL_sing 23 rfl) (by decide) ?_
  exact am_iret (am_dec tmL_sing 24 rfl) rfl (Nat.zero_le _) (Nat.zero_le _)
set_option maxRecDepth 100000 in
set_option maxHeartbeats 4000000 in
theorem xw_sing_1 {E : am_E} (hE : am_EH E) {p1 p2 p3 p4 : Int32} {D D1 : am_D} (hf : f_X11_sing p1 p2 p3 p4 D = some (.inl ("java/util/NoSuchElementException", D1))) : am_C E mL_sing 7 1 6 [.ref 16, .int p1, .int p2, .int p3, .int p4, .ref 2637] am_G0 D (.inl (some (.int 1))) am_G0 D1 := by
  refine am_C_of (by decide +kernel) (Nat.le_of_ble_eq_true rfl) ?_
  change am_S E mL_sing 7 1 6 (.inl (some (.int 1))) am_G0 D1 0 0 0 [(0, .ref 16), (1, .int p1), (2, .int p2), (3, .int p3), (4, .int p4), (5, .ref 2637)] [] am_G0 D
  refine am_aload (am_dec tmL_sing 0 rfl) rfl ?_
  refine am_iconst (v := (0 : Int32)) (am_dec tmL_sing 1 rfl) (by decide) ?_
  refine am_aload_n (am_dec tmL_sing 2 rfl) rfl rfl ?_
  refine am_iload_n (am_dec tmL_sing 3 rfl) rfl rfl ?_
  refine am_iload_n (am_dec tmL_sing 4 rfl) rfl rfl ?_
  refine am_iload_n (am_dec tmL_sing 5 rfl) rfl rfl ?_
  refine am_iload (am_dec tmL_sing 6 rfl) rfl ?_
  refine am_callV_catch (As := [.int p1, .int p2, .int p3, .int p4]) (st := [.int 0, .ref 2637]) (pre := []) (suf := [(0, 14, 21, 30), (0, 14, 25, 13), (0, 14, 29, 45)]) (x := (0, 14, 17, 21)) (i := 6) (np := 19) hE (am_dec tmL_sing 7 rfl) ok_X11_sing rfl lmL_91 in_X11_sing se_X11_sing sh_16 cf11 (t_X11_sing hE hf) rfl (by decide) (Nat.le_of_ble_eq_true rfl) (Nat.le_refl _) (Nat.le_refl _) rfl rfl (fun z hz => nomatch hz) (by decide) (by decide) lcL_NSE lcs_NSE (Or.inr ⟨(am_dec tmL_sing 11 rfl), rfl⟩) (by decide) ?_
  refine am_iconst (v := (1 : Int32)) (am_dec tmL_sing 12 rfl) (by decide) ?_
  exact am_iret (am_dec tmL_sing 13 rfl) rfl (Nat.le_refl _) (Nat.le_refl _)
set_option maxRecDepth 100000 in
set_option maxHeartbeats 4000000 in
theorem xw_sing_2 {E : am_E} (hE : am_EH E) {p1 p2 p3 p4 : Int32} {D D1 : am_D} (hf : f_X11_sing p1 p2 p3 p4 D = some (.inl ("java/lang/IndexOutOfBoundsException", D1))) : am_C E mL_sing 7 1 6 [.ref 16, .int p1, .int p2, .int p3, .int p4, .ref 2637] am_G0 D (.inl (some (.int 2))) am_G0 D1 := by
  refine am_C_of (by decide +kernel) (Nat.le_of_ble_eq_true rfl) ?_
  change am_S E mL_sing 7 1 6 (.inl (some (.int 2))) am_G0 D1 0 0 0 [(0, .ref 16), (1, .int p1), (2, .int p2), (3, .int p3), (4, .int p4), (5, .ref 2637)] [] am_G0 D
  refine am_aload (am_dec tmL_sing 0 rfl) rfl ?_
  refine am_iconst (v := (0 : Int32)) (am_dec tmL_sing 1 rfl) (by decide) ?_
  refine am_aload_n (am_dec tmL_sing 2 rfl) rfl rfl ?_
  refine am_iload_n (am_dec tmL_sing 3 rfl) rfl rfl ?_
  refine am_iload_n (am_dec tmL_sing 4 rfl) rfl rfl ?_
  refine am_iload_n (am_dec tmL_sing 5 rfl) rfl rfl ?_
  refine am_iload (am_dec tmL_sing 6 rfl) rfl ?_
  refine am_callV_catch (As := [.int p1, .int p2, .int p3, .int p4]) (st := [.int 0, .ref 2637]) (pre := [(0, 14, 17, 21)]) (suf := [(0, 14, 25, 13), (0, 14, 29, 45)]) (x := (0, 14, 21, 30)) (i := 6) (np := 23) hE (am_dec tmL_sing 7 rfl) ok_X11_sing rfl lmL_91 in_X11_sing se_X11_sing sh_16 cf11 (t_X11_sing hE hf) rfl (by decide) (Nat.le_of_ble_eq_true rfl) (Nat.le_refl _) (Nat.le_refl _) rfl rfl (List.forall_mem_cons.mpr ⟨⟨by decide, "java/util/NoSuchElementException", lcL_NSE, lnc_IOB_NSE⟩, (fun z hz => nomatch hz)⟩) (by decide) (by decide) lcL_IOB lcs_IOB (Or.inr ⟨(am_dec tmL_sing 14 rfl), rfl⟩) (by decide) ?_
  refine am_iconst (v := (2 : Int32)) (am_dec tmL_sing 15 rfl) (by decide) ?_
  exact am_iret (am_dec tmL_sing 16 rfl) rfl (Nat.le_refl _) (Nat.le_refl _)
set_option maxRecDepth 100000 in
set_option maxHeartbeats 4000000 in
theorem xw_sing_3 {E : am_E} (hE : am_EH E) {p1 p2 p3 p4 : Int32} {D D1 : am_D} (hf : f_X11_sing p1 p2 p3 p4 D = some (.inl ("java/lang/IllegalArgumentException", D1))) : am_C E mL_sing 7 1 6 [.ref 16, .int p1, .int p2, .int p3, .int p4, .ref 2637] am_G0 D (.inl (some (.int 3))) am_G0 D1 := by
  refine am_C_of (by decide +kernel) (Nat.le_of_ble_eq_true rfl) ?_
  change am_S E mL_sing 7 1 6 (.inl (some (.int 3))) am_G0 D1 0 0 0 [(0, .ref 16), (1, .int p1), (2, .int p2), (3, .int p3), (4, .int p4), (5, .ref 2637)] [] am_G0 D
  refine am_aload (am_dec tmL_sing 0 rfl) rfl ?_
  refine am_iconst (v := (0 : Int32)) (am_dec tmL_sing 1 rfl) (by decide) ?_
  refine am_aload_n (am_dec tmL_sing 2 rfl) rfl rfl ?_
  refine am_iload_n (am_dec tmL_sing 3 rfl) rfl rfl ?_
  refine am_iload_n (am_dec tmL_sing 4 rfl) rfl rfl ?_
  refine am_iload_n (am_dec tmL_sing 5 rfl) rfl rfl ?_
  refine am_iload (am_dec tmL_sing 6 rfl) rfl ?_
  refine am_callV_catch (As := [.int p1, .int p2, .int p3, .int p4]) (st := [.int 0, .ref 2637]) (pre := [(0, 14, 17, 21), (0, 14, 21, 30)]) (suf := [(0, 14, 29, 45)]) (x := (0, 14, 25, 13)) (i := 6) (np := 27) hE (am_dec tmL_sing 7 rfl) ok_X11_sing rfl lmL_91 in_X11_sing se_X11_sing sh_16 cf11 (t_X11_sing hE hf) rfl (by decide) (Nat.le_of_ble_eq_true rfl) (Nat.le_refl _) (Nat.le_refl _) rfl rfl (List.forall_mem_cons.mpr ⟨⟨by decide, "java/util/NoSuchElementException", lcL_NSE, lnc_IAE_NSE⟩, (List.forall_mem_cons.mpr ⟨⟨by decide, "java/lang/IndexOutOfBoundsException", lcL_IOB, lnc_IAE_IOB⟩, (fun z hz => nomatch hz)⟩)⟩) (by decide) (by decide) lcL_IAE lcs_IAE (Or.inr ⟨(am_dec tmL_sing 17 rfl), rfl⟩) (by decide) ?_
  refine am_iconst (v := (3 : Int32)) (am_dec tmL_sing 18 rfl) (by decide) ?_
  exact am_iret (am_dec tmL_sing 19 rfl) rfl (Nat.le_refl _) (Nat.le_refl _)
set_option maxRecDepth 100000 in
set_option maxHeartbeats 4000000 in
theorem xw_sing_4 {E : am_E} (hE : am_EH E) {p1 p2 p3 p4 : Int32} {D D1 : am_D} (hf : f_X11_sing p1 p2 p3 p4 D = some (.inl ("java/lang/IllegalStateException", D1))) : am_C E mL_sing 7 1 6 [.ref 16, .int p1, .int p2, .int p3, .int p4, .ref 2637] am_G0 D (.inl (some (.int 4))) am_G0 D1 := by
  refine am_C_of (by decide +kernel) (Nat.le_of_ble_eq_true rfl) ?_
  change am_S E mL_sing 7 1 6 (.inl (some (.int 4))) am_G0 D1 0 0 0 [(0, .ref 16), (1, .int p1), (2, .int p2), (3, .int p3), (4, .int p4), (5, .ref 2637)] [] am_G0 D
  refine am_aload (am_dec tmL_sing 0 rfl) rfl ?_
  refine am_iconst (v := (0 : Int32)) (am_dec tmL_sing 1 rfl) (by decide) ?_
  refine am_aload_n (am_dec tmL_sing 2 rfl) rfl rfl ?_
  refine am_iload_n (am_dec tmL_sing 3 rfl) rfl rfl ?_
  refine am_iload_n (am_dec tmL_sing 4 rfl) rfl rfl ?_
  refine am_iload_n (am_dec tmL_sing 5 rfl) rfl rfl ?_
  refine am_iload (am_dec tmL_sing 6 rfl) rfl ?_
  refine am_callV_catch (As := [.int p1, .int p2, .int p3, .int p4]) (st := [.int 0, .ref 2637]) (pre := [(0, 14, 17, 21), (0, 14, 21, 30), (0, 14, 25, 13)]) (suf := []) (x := (0, 14, 29, 45)) (i := 6) (np := 31) hE (am_dec tmL_sing 7 rfl) ok_X11_sing rfl lmL_91 in_X11_sing se_X11_sing sh_16 cf11 (t_X11_sing hE hf) rfl (by decide) (Nat.le_of_ble_eq_true rfl) (Nat.le_refl _) (Nat.le_refl _) rfl rfl (List.forall_mem_cons.mpr ⟨⟨by decide, "java/util/NoSuchElementException", lcL_NSE, lnc_ISE_NSE⟩, (List.forall_mem_cons.mpr ⟨⟨by decide, "java/lang/IndexOutOfBoundsException", lcL_IOB, lnc_ISE_IOB⟩, (List.forall_mem_cons.mpr ⟨⟨by decide, "java/lang/IllegalArgumentException", lcL_IAE, lnc_ISE_IAE⟩, (fun z hz => nomatch hz)⟩)⟩)⟩) (by decide) (by decide) lcL_ISE lcs_ISE (Or.inr ⟨(am_dec tmL_sing 20 rfl), rfl⟩) (by decide) ?_
  refine am_iconst (v := (4 : Int32)) (am_dec tmL_sing 21 rfl) (by decide) ?_
  exact am_iret (am_dec tmL_sing 22 rfl) rfl (Nat.le_refl _) (Nat.le_refl _)
set_option maxRecDepth 100000 in
set_option maxHeartbeats 4000000 in
theorem cw_crossing {E : am_E} (hE : am_EH E) {p1 p2 : Int32} {D D1 : am_D} {v : Int32} (hf : f_X11_crossing p1 p2 D = some (.inr (v, D1))) : am_C E mL_crossing 4 1 6 [.ref 16, .int p1, .int p2, .ref 2637] am_G0 D (.inl (some (.int 0))) am_G0 (am_wL D1 2637 0 v.toInt64) := by
  refine am_C_of (by decide +kernel) (Nat.le_of_ble_eq_true rfl) ?_
  change am_S E mL_crossing 4 1 6 (.inl (some (.int 0))) am_G0 (am_wL D1 2637 0 v.toInt64) 0 0 0 [(0, .ref 16), (1, .int p1), (2, .int p2), (3, .ref 2637)] [] am_G0 D
  refine am_aload_n (am_dec tmL_crossing 0 rfl) rfl rfl ?_
  refine am_iconst (v := (0 : Int32)) (am_dec tmL_crossing 1 rfl) (by decide) ?_
  refine am_aload_n (am_dec tmL_crossing 2 rfl) rfl rfl ?_
  refine am_iload_n (am_dec tmL_crossing 3 rfl) rfl rfl ?_
  refine am_iload_n (am_dec tmL_crossing 4 rfl) rfl rfl ?_
  refine am_callV1 (As := [.int p1, .int p2]) (st := [.int 0, .ref 2637]) hE (am_dec tmL_crossing 5 rfl) ok_X11_crossing rfl lmL_94 in_X11_crossing se_X11_crossing sh_16 cf11 (c_X11_crossing hE hf) rfl (by decide) (Nat.le_of_ble_eq_true rfl) (Nat.zero_le _) (Nat.zero_le _) rfl ?_
  refine am_i2l (am_dec tmL_crossing 6 rfl) ?_
  refine am_last2 (n := 1) (i := 0) (D2 := am_wL D1 2637 0 v.toInt64) hE (am_dec tmL_crossing 7 rfl) shq_2637 (k_pl (k := 0) _ (by decide) (by decide)) ?_
  refine am_goto (tgt := 17) (am_dec tmL_crossing 8 rfl) (by decide) ?_
  refine am_iconst (v := (0 : Int32)) (am_dec tmL_crossing 12 rfl) (by decide) ?_
  exact am_iret (am_dec tmL_crossing 13 rfl) rfl (Nat.zero_le _) (Nat.zero_le _)
set_option maxRecDepth 100000 in
set_option maxHeartbeats 4000000 in
theorem xw_crossing_1 {E : am_E} (hE : am_EH E) {p1 p2 : Int32} {D D1 : am_D} (hf : f_X11_crossing p1 p2 D = some (.inl ("java/util/NoSuchElementException", D1))) : am_C E mL_crossing 4 1 6 [.ref 16, .int p1, .int p2, .ref 2637] am_G0 D (.inl (some (.int 1))) am_G0 D1 := by
  refine am_C_of (by decide +kernel) (Nat.le_of_ble_eq_true rfl) ?_
  change am_S E mL_crossing 4 1 6 (.inl (some (.int 1))) am_G0 D1 0 0 0 [(0, .ref 16), (1, .int p1), (2, .int p2), (3, .ref 2637)] [] am_G0 D
  refine am_aload_n (am_dec tmL_crossing 0 rfl) rfl rfl ?_
  refine am_iconst (v := (0 : Int32)) (am_dec tmL_crossing 1 rfl) (by decide) ?_
  refine am_aload_n (am_dec tmL_crossing 2 rfl) rfl rfl ?_
  refine am_iload_n (am_dec tmL_crossing 3 rfl) rfl rfl ?_
  refine am_iload_n (am_dec tmL_crossing 4 rfl) rfl rfl ?_
  refine am_callV_catch (As := [.int p1, .int p2]) (st := [.int 0, .ref 2637]) (pre := []) (suf := []) (x := (0, 10, 13, 21)) (i := 4) (np := 15) hE (am_dec tmL_crossing 5 rfl) ok_X11_crossing rfl lmL_94 in_X11_crossing se_X11_crossing sh_16 cf11 (t_X11_crossing hE hf) rfl (by decide) (Nat.le_of_ble_eq_true rfl) (Nat.le_refl _) (Nat.le_refl _) rfl rfl (fun z hz => nomatch hz) (by decide) (by decide) lcL_NSE lcs_NSE (Or.inr ⟨(am_dec tmL_crossing 9 rfl), rfl⟩) (by decide) ?_
  refine am_iconst (v := (1 : Int32)) (am_dec tmL_crossing 10 rfl) (by decide) ?_
  exact am_iret (am_dec tmL_crossing 11 rfl) rfl (Nat.le_refl _) (Nat.le_refl _)
set_option maxRecDepth 100000 in
set_option maxHeartbeats 4000000 in
theorem cw_period {E : am_E} (hE : am_EH E) {p1 : Int32} {D D1 : am_D} {v : Int32} (hf : f_X11_period p1 D = some (.inr (v, D1))) : am_C E mL_period 5 1 6 [.ref 16, .int p1, .ref 2637] am_G0 D (.inl (some (.int 0))) am_G0 (am_wL D1 2637 0 v.toInt64) := by
  refine am_C_of (by decide +kernel) (Nat.le_of_ble_eq_true rfl) ?_
  change am_S E mL_period 5 1 6 (.inl (some (.int 0))) am_G0 (am_wL D1 2637 0 v.toInt64) 0 0 0 [(0, .ref 16), (1, .int p1), (2, .ref 2637)] [] am_G0 D
  refine am_aload_n (am_dec tmL_period 0 rfl) rfl rfl ?_
  refine am_iconst (v := (0 : Int32)) (am_dec tmL_period 1 rfl) (by decide) ?_
  refine am_aload_n (am_dec tmL_period 2 rfl) rfl rfl ?_
  refine am_iload_n (am_dec tmL_period 3 rfl) rfl rfl ?_
  refine am_callV1 (As := [.int p1]) (st := [.int 0, .ref 2637]) hE (am_dec tmL_period 4 rfl) ok_X11_period rfl lmL_97 in_X11_period se_X11_period sh_16 cf11 (c_X11_period hE hf) rfl (by decide) (Nat.le_of_ble_eq_true rfl) (Nat.zero_le _) (Nat.zero_le _) rfl ?_
  refine am_i2l (am_dec tmL_period 5 rfl) ?_
  refine am_last2 (n := 1) (i := 0) (D2 := am_wL D1 2637 0 v.toInt64) hE (am_dec tmL_period 6 rfl) shq_2637 (k_pl (k := 0) _ (by decide) (by decide)) ?_
  refine am_goto (tgt := 15) (am_dec tmL_period 7 rfl) (by decide) ?_
  refine am_iconst (v := (0 : Int32)) (am_dec tmL_period 11 rfl) (by decide) ?_
  exact am_iret (am_dec tmL_period 12 rfl) rfl (Nat.zero_le _) (Nat.zero_le _)
set_option maxRecDepth 100000 in
set_option maxHeartbeats 4000000 in
theorem xw_period_1 {E : am_E} (hE : am_EH E) {p1 : Int32} {D D1 : am_D} (hf : f_X11_period p1 D = some (.inl ("java/util/NoSuchElementException", D1))) : am_C E mL_period 5 1 6 [.ref 16, .int p1, .ref 2637] am_G0 D (.inl (some (.int 1))) am_G0 D1 := by
  refine am_C_of (by decide +kernel) (Nat.le_of_ble_eq_true rfl) ?_
  change am_S E mL_period 5 1 6 (.inl (some (.int 1))) am_G0 D1 0 0 0 [(0, .ref 16), (1, .int p1), (2, .ref 2637)] [] am_G0 D
  refine am_aload_n (am_dec tmL_period 0 rfl) rfl rfl ?_
  refine am_iconst (v := (0 : Int32)) (am_dec tmL_period 1 rfl) (by decide) ?_
  refine am_aload_n (am_dec tmL_period 2 rfl) rfl rfl ?_
  refine am_iload_n (am_dec tmL_period 3 rfl) rfl rfl ?_
  refine am_callV_catch (As := [.int p1]) (st := [.int 0, .ref 2637]) (pre := []) (suf := []) (x := (0, 9, 12, 21)) (i := 3) (np := 13) hE (am_dec tmL_period 4 rfl) ok_X11_period rfl lmL_97 in_X11_period se_X11_period sh_16 cf11 (t_X11_period hE hf) rfl (by decide) (Nat.le_of_ble_eq_true rfl) (Nat.le_refl _) (Nat.le_refl _) rfl rfl (fun z hz => nomatch hz) (by decide) (by decide) lcL_NSE lcs_NSE (Or.inl ⟨3, (am_dec tmL_period 8 rfl), rfl, rfl⟩) (by decide) ?_
  refine am_iconst (v := (1 : Int32)) (am_dec tmL_period 9 rfl) (by decide) ?_
  exact am_iret (am_dec tmL_period 10 rfl) rfl (Nat.le_refl _) (Nat.le_refl _)
set_option maxRecDepth 100000 in
set_option maxHeartbeats 4000000 in
theorem cw_hum {E : am_E} (hE : am_EH E) {p1 : Int32} {D D1 : am_D} {v : Int32} (hf : f_X11_hum p1 D = some (.inr (v, D1))) : am_C E mL_hum 4 1 6 [.ref 16, .int p1, .ref 2637] am_G0 D (.inl (some (.int 0))) am_G0 (am_wL D1 2637 0 v.toInt64) := by
  refine am_C_of (by decide +kernel) (Nat.le_of_ble_eq_true rfl) ?_
  change am_S E mL_hum 4 1 6 (.inl (some (.int 0))) am_G0 (am_wL D1 2637 0 v.toInt64) 0 0 0 [(0, .ref 16), (1, .int p1), (2, .ref 2637)] [] am_G0 D
  refine am_aload_n (am_dec tmL_hum 0 rfl) rfl rfl ?_
  refine am_iconst (v := (0 : Int32)) (am_dec tmL_hum 1 rfl) (by decide) ?_
  refine am_aload_n (am_dec tmL_hum 2 rfl) rfl rfl ?_
  refine am_iload_n (am_dec tmL_hum 3 rfl) rfl rfl ?_
  refine am_callV1 (As := [.int p1]) (st := [.int 0, .ref 2637]) hE (am_dec tmL_hum 4 rfl) ok_X11_hum rfl lmL_100 in_X11_hum se_X11_hum sh_16 cf11 (c_X11_hum hE hf) rfl (by decide) (Nat.le_of_ble_eq_true rfl) (Nat.zero_le _) (Nat.zero_le _) rfl ?_
  refine am_i2l (am_dec tmL_hum 5 rfl) ?_
  refine am_last2 (n := 1) (i := 0) (D2 := am_wL D1 2637 0 v.toInt64) hE (am_dec tmL_hum 6 rfl) shq_2637 (k_pl (k := 0) _ (by decide) (by decide)) ?_
  refine am_goto (tgt := 15) (am_dec tmL_hum 7 rfl) (by decide) ?_
  refine am_iconst (v := (0 : Int32)) (am_dec tmL_hum 11 rfl) (by decide) ?_
  exact am_iret (am_dec tmL_hum 12 rfl) rfl (Nat.zero_le _) (Nat.zero_le _)
set_option maxRecDepth 100000 in
set_option maxHeartbeats 4000000 in
theorem xw_hum_1 {E : am_E} (hE : am_EH E) {p1 : Int32} {D D1 : am_D} (hf : f_X11_hum p1 D = some (.inl ("java/lang/IllegalArgumentException", D1))) : am_C E mL_hum 4 1 6 [.ref 16, .int p1, .ref 2637] am_G0 D (.inl (some (.int 1))) am_G0 D1 := by
  refine am_C_of (by decide +kernel) (Nat.le_of_ble_eq_true rfl) ?_
  change am_S E mL_hum 4 1 6 (.inl (some (.int 1))) am_G0 D1 0 0 0 [(0, .ref 16), (1, .int p1), (2, .ref 2637)] [] am_G0 D
  refine am_aload_n (am_dec tmL_hum 0 rfl) rfl rfl ?_
  refine am_iconst (v := (0 : Int32)) (am_dec tmL_hum 1 rfl) (by decide) ?_
  refine am_aload_n (am_dec tmL_hum 2 rfl) rfl rfl ?_
  refine am_iload_n (am_dec tmL_hum 3 rfl) rfl rfl ?_
  refine am_callV_catch (As := [.int p1]) (st := [.int 0, .ref 2637]) (pre := []) (suf := []) (x := (0, 9, 12, 13)) (i := 3) (np := 13) hE (am_dec tmL_hum 4 rfl) ok_X11_hum rfl lmL_100 in_X11_hum se_X11_hum sh_16 cf11 (t_X11_hum hE hf) rfl (by decide) (Nat.le_of_ble_eq_true rfl) (Nat.le_refl _) (Nat.le_refl _) rfl rfl (fun z hz => nomatch hz) (by decide) (by decide) lcL_IAE lcs_IAE (Or.inl ⟨3, (am_dec tmL_hum 8 rfl), rfl, rfl⟩) (by decide) ?_
  refine am_iconst (v := (1 : Int32)) (am_dec tmL_hum 9 rfl) (by decide) ?_
  exact am_iret (am_dec tmL_hum 10 rfl) rfl (Nat.le_refl _) (Nat.le_refl _)
set_option maxRecDepth 100000 in
set_option maxHeartbeats 4000000 in
theorem cw_meant {E : am_E} (hE : am_EH E) {p1 p2 : Int32} {D D1 : am_D} {v : Int32} (hf : f_X11_meant p1 p2 D = some (.inr (v, D1))) : am_C E mL_meant 5 1 6 [.ref 16, .int p1, .int p2, .ref 2637] am_G0 D (.inl (some (.int 0))) am_G0 (am_wL D1 2637 0 v.toInt64) := by
  refine am_C_of (by decide +kernel) (Nat.le_of_ble_eq_true rfl) ?_
  change am_S E mL_meant 5 1 6 (.inl (some (.int 0))) am_G0 (am_wL D1 2637 0 v.toInt64) 0 0 0 [(0, .ref 16), (1, .int p1), (2, .int p2), (3, .ref 2637)] [] am_G0 D
  refine am_aload_n (am_dec tmL_meant 0 rfl) rfl rfl ?_
  refine am_iconst (v := (0 : Int32)) (am_dec tmL_meant 1 rfl) (by decide) ?_
  refine am_aload_n (am_dec tmL_meant 2 rfl) rfl rfl ?_
  refine am_iload_n (am_dec tmL_meant 3 rfl) rfl rfl ?_
  refine am_iload_n (am_dec tmL_meant 4 rfl) rfl rfl ?_
  refine am_callV1 (As := [.int p1, .int p2]) (st := [.int 0, .ref 2637]) hE (am_dec tmL_meant 5 rfl) ok_X11_meant rfl lmL_103 in_X11_meant se_X11_meant sh_16 cf11 (c_X11_meant hE hf) rfl (by decide) (Nat.le_of_ble_eq_true rfl) (Nat.zero_le _) (Nat.zero_le _) rfl ?_
  refine am_i2l (am_dec tmL_meant 6 rfl) ?_
  refine am_last2 (n := 1) (i := 0) (D2 := am_wL D1 2637 0 v.toInt64) hE (am_dec tmL_meant 7 rfl) shq_2637 (k_pl (k := 0) _ (by decide) (by decide)) ?_
  refine am_goto (tgt := 21) (am_dec tmL_meant 8 rfl) (by decide) ?_
  refine am_iconst (v := (0 : Int32)) (am_dec tmL_meant 15 rfl) (by decide) ?_
  exact am_iret (am_dec tmL_meant 16 rfl) rfl (Nat.zero_le _) (Nat.zero_le _)
set_option maxRecDepth 100000 in
set_option maxHeartbeats 4000000 in
theorem xw_meant_1 {E : am_E} (hE : am_EH E) {p1 p2 : Int32} {D D1 : am_D} (hf : f_X11_meant p1 p2 D = some (.inl ("java/util/NoSuchElementException", D1))) : am_C E mL_meant 5 1 6 [.ref 16, .int p1, .int p2, .ref 2637] am_G0 D (.inl (some (.int 1))) am_G0 D1 := by
  refine am_C_of (by decide +kernel) (Nat.le_of_ble_eq_true rfl) ?_
  change am_S E mL_meant 5 1 6 (.inl (some (.int 1))) am_G0 D1 0 0 0 [(0, .ref 16), (1, .int p1), (2, .int p2), (3, .ref 2637)] [] am_G0 D
  refine am_aload_n (am_dec tmL_meant 0 rfl) rfl rfl ?_
  refine am_iconst (v := (0 : Int32)) (am_dec tmL_meant 1 rfl) (by decide) ?_
  refine am_aload_n (am_dec tmL_meant 2 rfl) rfl rfl ?_
  refine am_iload_n (am_dec tmL_meant 3 rfl) rfl rfl ?_
  refine am_iload_n (am_dec tmL_meant 4 rfl) rfl rfl ?_
  refine am_callV_catch (As := [.int p1, .int p2]) (st := [.int 0, .ref 2637]) (pre := []) (suf := [(0, 10, 17, 13)]) (x := (0, 10, 13, 21)) (i := 4) (np := 15) hE (am_dec tmL_meant 5 rfl) ok_X11_meant rfl lmL_103 in_X11_meant se_X11_meant sh_16 cf11 (t_X11_meant hE hf) rfl (by decide) (Nat.le_of_ble_eq_true rfl) (Nat.le_refl _) (Nat.le_refl _) rfl rfl (fun z hz => nomatch hz) (by decide) (by decide) lcL_NSE lcs_NSE (Or.inr ⟨(am_dec tmL_meant 9 rfl), rfl⟩) (by decide) ?_
  refine am_iconst (v := (1 : Int32)) (am_dec tmL_meant 10 rfl) (by decide) ?_
  exact am_iret (am_dec tmL_meant 11 rfl) rfl (Nat.le_refl _) (Nat.le_refl _)
set_option maxRecDepth 100000 in
set_option maxHeartbeats 4000000 in
theorem xw_meant_2 {E : am_E} (hE : am_EH E) {p1 p2 : Int32} {D D1 : am_D} (hf : f_X11_meant p1 p2 D = some (.inl ("java/lang/IllegalArgumentException", D1))) : am_C E mL_meant 5 1 6 [.ref 16, .int p1, .int p2, .ref 2637] am_G0 D (.inl (some (.int 2))) am_G0 D1 := by
  refine am_C_of (by decide +kernel) (Nat.le_of_ble_eq_true rfl) ?_
  change am_S E mL_meant 5 1 6 (.inl (some (.int 2))) am_G0 D1 0 0 0 [(0, .ref 16), (1, .int p1), (2, .int p2), (3, .ref 2637)] [] am_G0 D
  refine am_aload_n (am_dec tmL_meant 0 rfl) rfl rfl ?_
  refine am_iconst (v := (0 : Int32)) (am_dec tmL_meant 1 rfl) (by decide) ?_
  refine am_aload_n (am_dec tmL_meant 2 rfl) rfl rfl ?_
  refine am_iload_n (am_dec tmL_meant 3 rfl) rfl rfl ?_
  refine am_iload_n (am_dec tmL_meant 4 rfl) rfl rfl ?_
  refine am_callV_catch (As := [.int p1, .int p2]) (st := [.int 0, .ref 2637]) (pre := [(0, 10, 13, 21)]) (suf := []) (x := (0, 10, 17, 13)) (i := 4) (np := 19) hE (am_dec tmL_meant 5 rfl) ok_X11_meant rfl lmL_103 in_X11_meant se_X11_meant sh_16 cf11 (t_X11_meant hE hf) rfl (by decide) (Nat.le_of_ble_eq_true rfl) (Nat.le_refl _) (Nat.le_refl _) rfl rfl (List.forall_mem_cons.mpr ⟨⟨by decide, "java/util/NoSuchElementException", lcL_NSE, lnc_IAE_NSE⟩, (fun z hz => nomatch hz)⟩) (by decide) (by decide) lcL_IAE lcs_IAE (Or.inr ⟨(am_dec tmL_meant 12 rfl), rfl⟩) (by decide) ?_
  refine am_iconst (v := (2 : Int32)) (am_dec tmL_meant 13 rfl) (by decide) ?_
  exact am_iret (am_dec tmL_meant 14 rfl) rfl (Nat.le_refl _) (Nat.le_refl _)
set_option maxRecDepth 100000 in
set_option maxHeartbeats 4000000 in
theorem cw_undo {E : am_E} (hE : am_EH E) {p1 p2 : Int32} {D D1 : am_D} {v : Int32} (hf : f_X11_undo p1 p2 D = some (.inr (v, D1))) : am_C E mL_undo 5 1 6 [.ref 16, .int p1, .int p2, .ref 2637] am_G0 D (.inl (some (.int 0))) am_G0 (am_wL D1 2637 0 v.toInt64) := by
  refine am_C_of (by decide +kernel) (Nat.le_of_ble_eq_true rfl) ?_
  change am_S E mL_undo 5 1 6 (.inl (some (.int 0))) am_G0 (am_wL D1 2637 0 v.toInt64) 0 0 0 [(0, .ref 16), (1, .int p1), (2, .int p2), (3, .ref 2637)] [] am_G0 D
  refine am_aload_n (am_dec tmL_undo 0 rfl) rfl rfl ?_
  refine am_iconst (v := (0 : Int32)) (am_dec tmL_undo 1 rfl) (by decide) ?_
  refine am_aload_n (am_dec tmL_undo 2 rfl) rfl rfl ?_
  refine am_iload_n (am_dec tmL_undo 3 rfl) rfl rfl ?_
  refine am_iload_n (am_dec tmL_undo 4 rfl) rfl rfl ?_
  refine am_callV1 (As := [.int p1, .int p2]) (st := [.int 0, .ref 2637]) hE (am_dec tmL_undo 5 rfl) ok_X11_undo rfl lmL_106 in_X11_undo se_X11_undo sh_16 cf11 (c_X11_undo hE hf) rfl (by decide) (Nat.le_of_ble_eq_true rfl) (Nat.zero_le _) (Nat.zero_le _) rfl ?_
  refine am_i2l (am_dec tmL_undo 6 rfl) ?_
  refine am_last2 (n := 1) (i := 0) (D2 := am_wL D1 2637 0 v.toInt64) hE (am_dec tmL_undo 7 rfl) shq_2637 (k_pl (k := 0) _ (by decide) (by decide)) ?_
  refine am_goto (tgt := 21) (am_dec tmL_undo 8 rfl) (by decide) ?_
  refine am_iconst (v := (0 : Int32)) (am_dec tmL_undo 15 rfl) (by decide) ?_
  exact am_iret (am_dec tmL_undo 16 rfl) rfl (Nat.zero_le _) (Nat.zero_le _)
set_option maxRecDepth 100000 in
set_option maxHeartbeats 4000000 in
theorem xw_undo_1 {E : am_E} (hE : am_EH E) {p1 p2 : Int32} {D D1 : am_D} (hf : f_X11_undo p1 p2 D = some (.inl ("java/util/NoSuchElementException", D1))) : am_C E mL_undo 5 1 6 [.ref 16, .int p1, .int p2, .ref 2637] am_G0 D (.inl (some (.int 1))) am_G0 D1 := by
  refine am_C_of (by decide +kernel) (Nat.le_of_ble_eq_true rfl) ?_
  change am_S E mL_undo 5 1 6 (.inl (some (.int 1))) am_G0 D1 0 0 0 [(0, .ref 16), (1, .int p1), (2, .int p2), (3, .ref 2637)] [] am_G0 D
  refine am_aload_n (am_dec tmL_undo 0 rfl) rfl rfl ?_
  refine am_iconst (v := (0 : Int32)) (am_dec tmL_undo 1 rfl) (by decide) ?_
  refine am_aload_n (am_dec tmL_undo 2 rfl) rfl rfl ?_
  refine am_iload_n (am_dec tmL_undo 3 rfl) rfl rfl ?_
  refine am_iload_n (am_dec tmL_undo 4 rfl) rfl rfl ?_
  refine am_callV_catch (As := [.int p1, .int p2]) (st := [.int 0, .ref 2637]) (pre := []) (suf := [(0, 10, 17, 13)]) (x := (0, 10, 13, 21)) (i := 4) (np := 15) hE (am_dec tmL_undo 5 rfl) ok_X11_undo rfl lmL_106 in_X11_undo se_X11_undo sh_16 cf11 (t_X11_undo hE hf) rfl (by decide) (Nat.le_of_ble_eq_true rfl) (Nat.le_refl _) (Nat.le_refl _) rfl rfl (fun z hz => nomatch hz) (by decide) (by decide) lcL_NSE lcs_NSE (Or.inr ⟨(am_dec tmL_undo 9 rfl), rfl⟩) (by decide) ?_
  refine am_iconst (v := (1 : Int32)) (am_dec tmL_undo 10 rfl) (by decide) ?_
  exact am_iret (am_dec tmL_undo 11 rfl) rfl (Nat.le_refl _) (Nat.le_refl _)
set_option maxRecDepth 100000 in
set_option maxHeartbeats 4000000 in
theorem xw_undo_2 {E : am_E} (hE : am_EH E) {p1 p2 : Int32} {D D1 : am_D} (hf : f_X11_undo p1 p2 D = some (.inl ("java/lang/IllegalArgumentException", D1))) : am_C E mL_undo 5 1 6 [.ref 16, .int p1, .int p2, .ref 2637] am_G0 D (.inl (some (.int 2))) am_G0 D1 := by
  refine am_C_of (by decide +kernel) (Nat.le_of_ble_eq_true rfl) ?_
  change am_S E mL_undo 5 1 6 (.inl (some (.int 2))) am_G0 D1 0 0 0 [(0, .ref 16), (1, .int p1), (2, .int p2), (3, .ref 2637)] [] am_G0 D
  refine am_aload_n (am_dec tmL_undo 0 rfl) rfl rfl ?_
  refine am_iconst (v := (0 : Int32)) (am_dec tmL_undo 1 rfl) (by decide) ?_
  refine am_aload_n (am_dec tmL_undo 2 rfl) rfl rfl ?_
  refine am_iload_n (am_dec tmL_undo 3 rfl) rfl rfl ?_
  refine am_iload_n (am_dec tmL_undo 4 rfl) rfl rfl ?_
  refine am_callV_catch (As := [.int p1, .int p2]) (st := [.int 0, .ref 2637]) (pre := [(0, 10, 13, 21)]) (suf := []) (x := (0, 10, 17, 13)) (i := 4) (np := 19) hE (am_dec tmL_undo 5 rfl) ok_X11_undo rfl lmL_106 in_X11_undo se_X11_undo sh_16 cf11 (t_X11_undo hE hf) rfl (by decide) (Nat.le_of_ble_eq_true rfl) (Nat.le_refl _) (Nat.le_refl _) rfl rfl (List.forall_mem_cons.mpr ⟨⟨by decide, "java/util/NoSuchElementException", lcL_NSE, lnc_IAE_NSE⟩, (fun z hz => nomatch hz)⟩) (by decide) (by decide) lcL_IAE lcs_IAE (Or.inr ⟨(am_dec tmL_undo 12 rfl), rfl⟩) (by decide) ?_
  refine am_iconst (v := (2 : Int32)) (am_dec tmL_undo 13 rfl) (by decide) ?_
  exact am_iret (am_dec tmL_undo 14 rfl) rfl (Nat.le_refl _) (Nat.le_refl _)
set_option maxRecDepth 100000 in
set_option maxHeartbeats 4000000 in
theorem cw_wobble {E : am_E} (hE : am_EH E) {p1 p2 : Int32} {D D1 : am_D} {v : Int32} (hf : f_X11_wobble p1 p2 D = some (.inr (v, D1))) : am_C E mL_wobble 5 1 6 [.ref 16, .int p1, .int p2, .ref 2637] am_G0 D (.inl (some (.int 0))) am_G0 (am_wL D1 2637 0 v.toInt64) := by
  refine am_C_of (by decide +kernel) (Nat.le_of_ble_eq_true rfl) ?_
  change am_S E mL_wobble 5 1 6 (.inl (some (.int 0))) am_G0 (am_wL D1 2637 0 v.toInt64) 0 0 0 [(0, .ref 16), (1, .int p1), (2, .int p2), (3, .ref 2637)] [] am_G0 D
  refine am_aload_n (am_dec tmL_wobble 0 rfl) rfl rfl ?_
  refine am_iconst (v := (0 : Int32)) (am_dec tmL_wobble 1 rfl) (by decide) ?_
  refine am_aload_n (am_dec tmL_wobble 2 rfl) rfl rfl ?_
  refine am_iload_n (am_dec tmL_wobble 3 rfl) rfl rfl ?_
  refine am_iload_n (am_dec tmL_wobble 4 rfl) rfl rfl ?_
  refine am_callV1 (As := [.int p1, .int p2]) (st := [.int 0, .ref 2637]) hE (am_dec tmL_wobble 5 rfl) ok_X11_wobble rfl lmL_109 in_X11_wobble se_X11_wobble sh_16 cf11 (c_X11_wobble hE hf) rfl (by decide) (Nat.le_of_ble_eq_true rfl) (Nat.zero_le _) (Nat.zero_le _) rfl ?_
  refine am_i2l (am_dec tmL_wobble 6 rfl) ?_
  refine am_last2 (n := 1) (i := 0) (D2 := am_wL D1 2637 0 v.toInt64) hE (am_dec tmL_wobble 7 rfl) shq_2637 (k_pl (k := 0) _ (by decide) (by decide)) ?_
  refine am_goto (tgt := 21) (am_dec tmL_wobble 8 rfl) (by decide) ?_
  refine am_iconst (v := (0 : Int32)) (am_dec tmL_wobble 15 rfl) (by decide) ?_
  exact am_iret (am_dec tmL_wobble 16 rfl) rfl (Nat.zero_le _) (Nat.zero_le _)
set_option maxRecDepth 100000 in
set_option maxHeartbeats 4000000 in
theorem xw_wobble_1 {E : am_E} (hE : am_EH E) {p1 p2 : Int32} {D D1 : am_D} (hf : f_X11_wobble p1 p2 D = some (.inl ("java/util/NoSuchElementException", D1))) : am_C E mL_wobble 5 1 6 [.ref 16, .int p1, .int p2, .ref 2637] am_G0 D (.inl (some (.int 1))) am_G0 D1 := by
  refine am_C_of (by decide +kernel) (Nat.le_of_ble_eq_true rfl) ?_
  change am_S E mL_wobble 5 1 6 (.inl (some (.int 1))) am_G0 D1 0 0 0 [(0, .ref 16), (1, .int p1), (2, .int p2), (3, .ref 2637)] [] am_G0 D
  refine am_aload_n (am_dec tmL_wobble 0 rfl) rfl rfl ?_
  refine am_iconst (v := (0 : Int32)) (am_dec tmL_wobble 1 rfl) (by decide) ?_
  refine am_aload_n (am_dec tmL_wobble 2 rfl) rfl rfl ?_
  refine am_iload_n (am_dec tmL_wobble 3 rfl) rfl rfl ?_
  refine am_iload_n (am_dec tmL_wobble 4 rfl) rfl rfl ?_
  refine am_callV_catch (As := [.int p1, .int p2]) (st := [.int 0, .ref 2637]) (pre := []) (suf := [(0, 10, 17, 13)]) (x := (0, 10, 13, 21)) (i := 4) (np := 15) hE (am_dec tmL_wobble 5 rfl) ok_X11_wobble rfl lmL_109 in_X11_wobble se_X11_wobble sh_16 cf11 (t_X11_wobble hE hf) rfl (by decide) (Nat.le_of_ble_eq_true rfl) (Nat.le_refl _) (Nat.le_refl _) rfl rfl (fun z hz => nomatch hz) (by decide) (by decide) lcL_NSE lcs_NSE (Or.inr ⟨(am_dec tmL_wobble 9 rfl), rfl⟩) (by decide) ?_
  refine am_iconst (v := (1 : Int32)) (am_dec tmL_wobble 10 rfl) (by decide) ?_
  exact am_iret (am_dec tmL_wobble 11 rfl) rfl (Nat.le_refl _) (Nat.le_refl _)
set_option maxRecDepth 100000 in
set_option maxHeartbeats 4000000 in
theorem xw_wobble_2 {E : am_E} (hE : am_EH E) {p1 p2 : Int32} {D D1 : am_D} (hf : f_X11_wobble p1 p2 D = some (.inl ("java/lang/IllegalArgumentException", D1))) : am_C E mL_wobble 5 1 6 [.ref 16, .int p1, .int p2, .ref 2637] am_G0 D (.inl (some (.int 2))) am_G0 D1 := by
  refine am_C_of (by decide +kernel) (Nat.le_of_ble_eq_true rfl) ?_
  change am_S E mL_wobble 5 1 6 (.inl (some (.int 2))) am_G0 D1 0 0 0 [(0, .ref 16), (1, .int p1), (2, .int p2), (3, .ref 2637)] [] am_G0 D
  refine am_aload_n (am_dec tmL_wobble 0 rfl) rfl rfl ?_
  refine am_iconst (v := (0 : Int32)) (am_dec tmL_wobble 1 rfl) (by decide) ?_
  refine am_aload_n (am_dec tmL_wobble 2 rfl) rfl rfl ?_
  refine am_iload_n (am_dec tmL_wobble 3 rfl) rfl rfl ?_
  refine am_iload_n (am_dec tmL_wobble 4 rfl) rfl rfl ?_
  refine am_callV_catch (As := [.int p1, .int p2]) (st := [.int 0, .ref 2637]) (pre := [(0, 10, 13, 21)]) (suf := []) (x := (0, 10, 17, 13)) (i := 4) (np := 19) hE (am_dec tmL_wobble 5 rfl) ok_X11_wobble rfl lmL_109 in_X11_wobble se_X11_wobble sh_16 cf11 (t_X11_wobble hE hf) rfl (by decide) (Nat.le_of_ble_eq_true rfl) (Nat.le_refl _) (Nat.le_refl _) rfl rfl (List.forall_mem_cons.mpr ⟨⟨by decide, "java/util/NoSuchElementException", lcL_NSE, lnc_IAE_NSE⟩, (fun z hz => nomatch hz)⟩) (by decide) (by decide) lcL_IAE lcs_IAE (Or.inr ⟨(am_dec tmL_wobble 12 rfl), rfl⟩) (by decide) ?_
  refine am_iconst (v := (2 : Int32)) (am_dec tmL_wobble 13 rfl) (by decide) ?_
  exact am_iret (am_dec tmL_wobble 14 rfl) rfl (Nat.le_refl _) (Nat.le_refl _)
set_option maxRecDepth 100000 in
set_option maxHeartbeats 4000000 in
theorem cw_beat {E : am_E} (hE : am_EH E) {p1 p2 : Int32} {D D1 : am_D} {v : Int32} (hf : f_X11_beat p1 p2 D = some (.inr (v, D1))) : am_C E mL_beat 6 1 6 [.ref 16, .int p1, .int p2, .ref 2637] am_G0 D (.inl (some (.int 0))) am_G0 (am_wL D1 2637 0 v.toInt64) := by
  refine am_C_of (by decide +kernel) (Nat.le_of_ble_eq_true rfl) ?_
  change am_S E mL_beat 6 1 6 (.inl (some (.int 0))) am_G0 (am_wL D1 2637 0 v.toInt64) 0 0 0 [(0, .ref 16), (1, .int p1), (2, .int p2), (3, .ref 2637)] [] am_G0 D
  refine am_aload_n (am_dec tmL_beat 0 rfl) rfl rfl ?_
  refine am_iconst (v := (0 : Int32)) (am_dec tmL_beat 1 rfl) (by decide) ?_
  refine am_aload_n (am_dec tmL_beat 2 rfl) rfl rfl ?_
  refine am_iload_n (am_dec tmL_beat 3 rfl) rfl rfl ?_
  refine am_iload_n (am_dec tmL_beat 4 rfl) rfl rfl ?_
  refine am_callV1 (As := [.int p1, .int p2]) (st := [.int 0, .ref 2637]) hE (am_dec tmL_beat 5 rfl) ok_X11_beat rfl lmL_112 in_X11_beat se_X11_beat sh_16 cf11 (c_X11_beat hE hf) rfl (by decide) (Nat.le_of_ble_eq_true rfl) (Nat.zero_le _) (Nat.zero_le _) rfl ?_
  refine am_i2l (am_dec tmL_beat 6 rfl) ?_
  refine am_last2 (n := 1) (i := 0) (D2 := am_wL D1 2637 0 v.toInt64) hE (am_dec tmL_beat 7 rfl) shq_2637 (k_pl (k := 0) _ (by decide) (by decide)) ?_
  refine am_goto (tgt := 21) (am_dec tmL_beat 8 rfl) (by decide) ?_
  refine am_iconst (v := (0 : Int32)) (am_dec tmL_beat 15 rfl) (by decide) ?_
  exact am_iret (am_dec tmL_beat 16 rfl) rfl (Nat.zero_le _) (Nat.zero_le _)
set_option maxRecDepth 100000 in
set_option maxHeartbeats 4000000 in
theorem xw_beat_1 {E : am_E} (hE : am_EH E) {p1 p2 : Int32} {D D1 : am_D} (hf : f_X11_beat p1 p2 D = some (.inl ("java/util/NoSuchElementException", D1))) : am_C E mL_beat 6 1 6 [.ref 16, .int p1, .int p2, .ref 2637] am_G0 D (.inl (some (.int 1))) am_G0 D1 := by
  refine am_C_of (by decide +kernel) (Nat.le_of_ble_eq_true rfl) ?_
  change am_S E mL_beat 6 1 6 (.inl (some (.int 1))) am_G0 D1 0 0 0 [(0, .ref 16), (1, .int p1), (2, .int p2), (3, .ref 2637)] [] am_G0 D
  refine am_aload_n (am_dec tmL_beat 0 rfl) rfl rfl ?_
  refine am_iconst (v := (0 : Int32)) (am_dec tmL_beat 1 rfl) (by decide) ?_
  refine am_aload_n (am_dec tmL_beat 2 rfl) rfl rfl ?_
  refine am_iload_n (am_dec tmL_beat 3 rfl) rfl rfl ?_
  refine am_iload_n (am_dec tmL_beat 4 rfl) rfl rfl ?_
  refine am_callV_catch (As := [.int p1, .int p2]) (st := [.int 0, .ref 2637]) (pre := []) (suf := [(0, 10, 17, 13)]) (x := (0, 10, 13, 21)) (i := 4) (np := 15) hE (am_dec tmL_beat 5 rfl) ok_X11_beat rfl lmL_112 in_X11_beat se_X11_beat sh_16 cf11 (t_X11_beat hE hf) rfl (by decide) (Nat.le_of_ble_eq_true rfl) (Nat.le_refl _) (Nat.le_refl _) rfl rfl (fun z hz => nomatch hz) (by decide) (by decide) lcL_NSE lcs_NSE (Or.inr ⟨(am_dec tmL_beat 9 rfl), rfl⟩) (by decide) ?_
  refine am_iconst (v := (1 : Int32)) (am_dec tmL_beat 10 rfl) (by decide) ?_
  exact am_iret (am_dec tmL_beat 11 rfl) rfl (Nat.le_refl _) (Nat.le_refl _)
set_option maxRecDepth 100000 in
set_option maxHeartbeats 4000000 in
theorem xw_beat_2 {E : am_E} (hE : am_EH E) {p1 p2 : Int32} {D D1 : am_D} (hf : f_X11_beat p1 p2 D = some (.inl ("java/lang/IllegalArgumentException", D1))) : am_C E mL_beat 6 1 6 [.ref 16, .int p1, .int p2, .ref 2637] am_G0 D (.inl (some (.int 2))) am_G0 D1 := by
  refine am_C_of (by decide +kernel) (Nat.le_of_ble_eq_true rfl) ?_
  change am_S E mL_beat 6 1 6 (.inl (some (.int 2))) am_G0 D1 0 0 0 [(0, .ref 16), (1, .int p1), (2, .int p2), (3, .ref 2637)] [] am_G0 D
  refine am_aload_n (am_dec tmL_beat 0 rfl) rfl rfl ?_
  refine am_iconst (v := (0 : Int32)) (am_dec tmL_beat 1 rfl) (by decide) ?_
  refine am_aload_n (am_dec tmL_beat 2 rfl) rfl rfl ?_
  refine am_iload_n (am_dec tmL_beat 3 rfl) rfl rfl ?_
  refine am_iload_n (am_dec tmL_beat 4 rfl) rfl rfl ?_
  refine am_callV_catch (As := [.int p1, .int p2]) (st := [.int 0, .ref 2637]) (pre := [(0, 10, 13, 21)]) (suf := []) (x := (0, 10, 17, 13)) (i := 4) (np := 19) hE (am_dec tmL_beat 5 rfl) ok_X11_beat rfl lmL_112 in_X11_beat se_X11_beat sh_16 cf11 (t_X11_beat hE hf) rfl (by decide) (Nat.le_of_ble_eq_true rfl) (Nat.le_refl _) (Nat.le_refl _) rfl rfl (List.forall_mem_cons.mpr ⟨⟨by decide, "java/util/NoSuchElementException", lcL_NSE, lnc_IAE_NSE⟩, (fun z hz => nomatch hz)⟩) (by decide) (by decide) lcL_IAE lcs_IAE (Or.inr ⟨(am_dec tmL_beat 12 rfl), rfl⟩) (by decide) ?_
  refine am_iconst (v := (2 : Int32)) (am_dec tmL_beat 13 rfl) (by decide) ?_
  exact am_iret (am_dec tmL_beat 14 rfl) rfl (Nat.le_refl _) (Nat.le_refl _)
set_option maxRecDepth 100000 in
set_option maxHeartbeats 4000000 in
theorem cw_onto {E : am_E} (hE : am_EH E) {p1 p2 : Int32} {D D1 : am_D} {v : Int32} (hf : f_X11_onto p1 p2 D = some (.inr (v, D1))) : am_C E mL_onto 6 1 6 [.ref 16, .int p1, .int p2, .ref 2637] am_G0 D (.inl (some (.int 0))) am_G0 (am_wL D1 2637 0 v.toInt64) := by
  refine am_C_of (by decide +kernel) (Nat.le_of_ble_eq_true rfl) ?_
  change am_S E mL_onto 6 1 6 (.inl (some (.int 0))) am_G0 (am_wL D1 2637 0 v.toInt64) 0 0 0 [(0, .ref 16), (1, .int p1), (2, .int p2), (3, .ref 2637)] [] am_G0 D
  refine am_aload_n (am_dec tmL_onto 0 rfl) rfl rfl ?_
  refine am_iconst (v := (0 : Int32)) (am_dec tmL_onto 1 rfl) (by decide) ?_
  refine am_aload_n (am_dec tmL_onto 2 rfl) rfl rfl ?_
  refine am_iload_n (am_dec tmL_onto 3 rfl) rfl rfl ?_
  refine am_iload_n (am_dec tmL_onto 4 rfl) rfl rfl ?_
  refine am_callV1 (As := [.int p1, .int p2]) (st := [.int 0, .ref 2637]) hE (am_dec tmL_onto 5 rfl) ok_X11_onto rfl lmL_115 in_X11_onto se_X11_onto sh_16 cf11 (c_X11_onto hE hf) rfl (by decide) (Nat.le_of_ble_eq_true rfl) (Nat.zero_le _) (Nat.zero_le _) rfl ?_
  refine am_i2l (am_dec tmL_onto 6 rfl) ?_
  refine am_last2 (n := 1) (i := 0) (D2 := am_wL D1 2637 0 v.toInt64) hE (am_dec tmL_onto 7 rfl) shq_2637 (k_pl (k := 0) _ (by decide) (by decide)) ?_
  refine am_goto (tgt := 21) (am_dec tmL_onto 8 rfl) (by decide) ?_
  refine am_iconst (v := (0 : Int32)) (am_dec tmL_onto 15 rfl) (by decide) ?_
  exact am_iret (am_dec tmL_onto 16 rfl) rfl (Nat.zero_le _) (Nat.zero_le _)
set_option maxRecDepth 100000 in
set_option maxHeartbeats 4000000 in
theorem xw_onto_1 {E : am_E} (hE : am_EH E) {p1 p2 : Int32} {D D1 : am_D} (hf : f_X11_onto p1 p2 D = some (.inl ("java/util/NoSuchElementException", D1))) : am_C E mL_onto 6 1 6 [.ref 16, .int p1, .int p2, .ref 2637] am_G0 D (.inl (some (.int 1))) am_G0 D1 := by
  refine am_C_of (by decide +kernel) (Nat.le_of_ble_eq_true rfl) ?_
  change am_S E mL_onto 6 1 6 (.inl (some (.int 1))) am_G0 D1 0 0 0 [(0, .ref 16), (1, .int p1), (2, .int p2), (3, .ref 2637)] [] am_G0 D
  refine am_aload_n (am_dec tmL_onto 0 rfl) rfl rfl ?_
  refine am_iconst (v := (0 : Int32)) (am_dec tmL_onto 1 rfl) (by decide) ?_
  refine am_aload_n (am_dec tmL_onto 2 rfl) rfl rfl ?_
  refine am_iload_n (am_dec tmL_onto 3 rfl) rfl rfl ?_
  refine am_iload_n (am_dec tmL_onto 4 rfl) rfl rfl ?_
  refine am_callV_catch (As := [.int p1, .int p2]) (st := [.int 0, .ref 2637]) (pre := []) (suf := [(0, 10, 17, 13)]) (x := (0, 10, 13, 21)) (i := 4) (np := 15) hE (am_dec tmL_onto 5 rfl) ok_X11_onto rfl lmL_115 in_X11_onto se_X11_onto sh_16 cf11 (t_X11_onto hE hf) rfl (by decide) (Nat.le_of_ble_eq_true rfl) (Nat.le_refl _) (Nat.le_refl _) rfl rfl (fun z hz => nomatch hz) (by decide) (by decide) lcL_NSE lcs_NSE (Or.inr ⟨(am_dec tmL_onto 9 rfl), rfl⟩) (by decide) ?_
  refine am_iconst (v := (1 : Int32)) (am_dec tmL_onto 10 rfl) (by decide) ?_
  exact am_iret (am_dec tmL_onto 11 rfl) rfl (Nat.le_refl _) (Nat.le_refl _)
set_option maxRecDepth 100000 in
set_option maxHeartbeats 4000000 in
theorem xw_onto_2 {E : am_E} (hE : am_EH E) {p1 p2 : Int32} {D D1 : am_D} (hf : f_X11_onto p1 p2 D = some (.inl ("java/lang/IllegalArgumentException", D1))) : am_C E mL_onto 6 1 6 [.ref 16, .int p1, .int p2, .ref 2637] am_G0 D (.inl (some (.int 2))) am_G0 D1 := by
  refine am_C_of (by decide +kernel) (Nat.le_of_ble_eq_true rfl) ?_
  change am_S E mL_onto 6 1 6 (.inl (some (.int 2))) am_G0 D1 0 0 0 [(0, .ref 16), (1, .int p1), (2, .int p2), (3, .ref 2637)] [] am_G0 D
  refine am_aload_n (am_dec tmL_onto 0 rfl) rfl rfl ?_
  refine am_iconst (v := (0 : Int32)) (am_dec tmL_onto 1 rfl) (by decide) ?_
  refine am_aload_n (am_dec tmL_onto 2 rfl) rfl rfl ?_
  refine am_iload_n (am_dec tmL_onto 3 rfl) rfl rfl ?_
  refine am_iload_n (am_dec tmL_onto 4 rfl) rfl rfl ?_
  refine am_callV_catch (As := [.int p1, .int p2]) (st := [.int 0, .ref 2637]) (pre := [(0, 10, 13, 21)]) (suf := []) (x := (0, 10, 17, 13)) (i := 4) (np := 19) hE (am_dec tmL_onto 5 rfl) ok_X11_onto rfl lmL_115 in_X11_onto se_X11_onto sh_16 cf11 (t_X11_onto hE hf) rfl (by decide) (Nat.le_of_ble_eq_true rfl) (Nat.le_refl _) (Nat.le_refl _) rfl rfl (List.forall_mem_cons.mpr ⟨⟨by decide, "java/util/NoSuchElementException", lcL_NSE, lnc_IAE_NSE⟩, (fun z hz => nomatch hz)⟩) (by decide) (by decide) lcL_IAE lcs_IAE (Or.inr ⟨(am_dec tmL_onto 12 rfl), rfl⟩) (by decide) ?_
  refine am_iconst (v := (2 : Int32)) (am_dec tmL_onto 13 rfl) (by decide) ?_
  exact am_iret (am_dec tmL_onto 14 rfl) rfl (Nat.le_refl _) (Nat.le_refl _)
set_option maxRecDepth 100000 in
set_option maxHeartbeats 4000000 in
theorem cw_loop {E : am_E} (hE : am_EH E) {p1 p2 p3 : Int32} {D D1 : am_D} {v : Int32} (hf : f_X11_loop p1 p2 p3 D = some (.inr (v, D1))) : am_C E mL_loop 5 1 6 [.ref 16, .int p1, .int p2, .int p3, .ref 2637] am_G0 D (.inl (some (.int 0))) am_G0 (am_wL D1 2637 0 v.toInt64) := by
  refine am_C_of (by decide +kernel) (Nat.le_of_ble_eq_true rfl) ?_
  change am_S E mL_loop 5 1 6 (.inl (some (.int 0))) am_G0 (am_wL D1 2637 0 v.toInt64) 0 0 0 [(0, .ref 16), (1, .int p1), (2, .int p2), (3, .int p3), (4, .ref 2637)] [] am_G0 D
  refine am_aload (am_dec tmL_loop 0 rfl) rfl ?_
  refine am_iconst (v := (0 : Int32)) (am_dec tmL_loop 1 rfl) (by decide) ?_
  refine am_aload_n (am_dec tmL_loop 2 rfl) rfl rfl ?_
  refine am_iload_n (am_dec tmL_loop 3 rfl) rfl rfl ?_
  refine am_iload_n (am_dec tmL_loop 4 rfl) rfl rfl ?_
  refine am_iload_n (am_dec tmL_loop 5 rfl) rfl rfl ?_
  refine am_callV1 (As := [.int p1, .int p2, .int p3]) (st := [.int 0, .ref 2637]) hE (am_dec tmL_loop 6 rfl) ok_X11_loop rfl lmL_118 in_X11_loop se_X11_loop sh_16 cf11 (c_X11_loop hE hf) rfl (by decide) (Nat.le_of_ble_eq_true rfl) (Nat.zero_le _) (Nat.zero_le _) rfl ?_
  refine am_i2l (am_dec tmL_loop 7 rfl) ?_
  refine am_last2 (n := 1) (i := 0) (D2 := am_wL D1 2637 0 v.toInt64) hE (am_dec tmL_loop 8 rfl) shq_2637 (k_pl (k := 0) _ (by decide) (by decide)) ?_
  refine am_goto (tgt := 23) (am_dec tmL_loop 9 rfl) (by decide) ?_
  refine am_iconst (v := (0 : Int32)) (am_dec tmL_loop 16 rfl) (by decide) ?_
  exact am_iret (am_dec tmL_loop 17 rfl) rfl (Nat.zero_le _) (Nat.zero_le _)
set_option maxRecDepth 100000 in
set_option maxHeartbeats 4000000 in
theorem xw_loop_1 {E : am_E} (hE : am_EH E) {p1 p2 p3 : Int32} {D D1 : am_D} (hf : f_X11_loop p1 p2 p3 D = some (.inl ("java/util/NoSuchElementException", D1))) : am_C E mL_loop 5 1 6 [.ref 16, .int p1, .int p2, .int p3, .ref 2637] am_G0 D (.inl (some (.int 1))) am_G0 D1 := by
  refine am_C_of (by decide +kernel) (Nat.le_of_ble_eq_true rfl) ?_
  change am_S E mL_loop 5 1 6 (.inl (some (.int 1))) am_G0 D1 0 0 0 [(0, .ref 16), (1, .int p1), (2, .int p2), (3, .int p3), (4, .ref 2637)] [] am_G0 D
  refine am_aload (am_dec tmL_loop 0 rfl) rfl ?_
  refine am_iconst (v := (0 : Int32)) (am_dec tmL_loop 1 rfl) (by decide) ?_
  refine am_aload_n (am_dec tmL_loop 2 rfl) rfl rfl ?_
  refine am_iload_n (am_dec tmL_loop 3 rfl) rfl rfl ?_
  refine am_iload_n (am_dec tmL_loop 4 rfl) rfl rfl ?_
  refine am_iload_n (am_dec tmL_loop 5 rfl) rfl rfl ?_
  refine am_callV_catch (As := [.int p1, .int p2, .int p3]) (st := [.int 0, .ref 2637]) (pre := []) (suf := [(0, 12, 19, 13)]) (x := (0, 12, 15, 21)) (i := 5) (np := 17) hE (am_dec tmL_loop 6 rfl) ok_X11_loop rfl lmL_118 in_X11_loop se_X11_loop sh_16 cf11 (t_X11_loop hE hf) rfl (by decide) (Nat.le_of_ble_eq_true rfl) (Nat.le_refl _) (Nat.le_refl _) rfl rfl (fun z hz => nomatch hz) (by decide) (by decide) lcL_NSE lcs_NSE (Or.inr ⟨(am_dec tmL_loop 10 rfl), rfl⟩) (by decide) ?_
  refine am_iconst (v := (1 : Int32)) (am_dec tmL_loop 11 rfl) (by decide) ?_
  exact am_iret (am_dec tmL_loop 12 rfl) rfl (Nat.le_refl _) (Nat.le_refl _)
set_option maxRecDepth 100000 in
set_option maxHeartbeats 4000000 in
theorem xw_loop_2 {E : am_E} (hE : am_EH E) {p1 p2 p3 : Int32} {D D1 : am_D} (hf : f_X11_loop p1 p2 p3 D = some (.inl ("java/lang/IllegalArgumentException", D1))) : am_C E mL_loop 5 1 6 [.ref 16, .int p1, .int p2, .int p3, .ref 2637] am_G0 D (.inl (some (.int 2))) am_G0 D1 := by
  refine am_C_of (by decide +kernel) (Nat.le_of_ble_eq_true rfl) ?_
  change am_S E mL_loop 5 1 6 (.inl (some (.int 2))) am_G0 D1 0 0 0 [(0, .ref 16), (1, .int p1), (2, .int p2), (3, .int p3), (4, .ref 2637)] [] am_G0 D
  refine am_aload (am_dec tmL_loop 0 rfl) rfl ?_
  refine am_iconst (v := (0 : Int32)) (am_dec tmL_loop 1 rfl) (by decide) ?_
  refine am_aload_n (am_dec tmL_loop 2 rfl) rfl rfl ?_
  refine am_iload_n (am_dec tmL_loop 3 rfl) rfl rfl ?_
  refine am_iload_n (am_dec tmL_loop 4 rfl) rfl rfl ?_
  refine am_iload_n (am_dec tmL_loop 5 rfl) rfl rfl ?_
  refine am_callV_catch (As := [.int p1, .int p2, .int p3]) (st := [.int 0, .ref 2637]) (pre := [(0, 12, 15, 21)]) (suf := []) (x := (0, 12, 19, 13)) (i := 5) (np := 21) hE (am_dec tmL_loop 6 rfl) ok_X11_loop rfl lmL_118 in_X11_loop se_X11_loop sh_16 cf11 (t_X11_loop hE hf) rfl (by decide) (Nat.le_of_ble_eq_true rfl) (Nat.le_refl _) (Nat.le_refl _) rfl rfl (List.forall_mem_cons.mpr ⟨⟨by decide, "java/util/NoSuchElementException", lcL_NSE, lnc_IAE_NSE⟩, (fun z hz => nomatch hz)⟩) (by decide) (by decide) lcL_IAE lcs_IAE (Or.inr ⟨(am_dec tmL_loop 13 rfl), rfl⟩) (by decide) ?_
  refine am_iconst (v := (2 : Int32)) (am_dec tmL_loop 14 rfl) (by decide) ?_
  exact am_iret (am_dec tmL_loop 15 rfl) rfl (Nat.le_refl _) (Nat.le_refl _)
set_option maxRecDepth 100000 in
set_option maxHeartbeats 4000000 in
theorem cw_join {E : am_E} (hE : am_EH E) {p1 p2 : Int32} {D D1 : am_D} {v : Int32} (hf : f_X11_join p1 p2 D = some (.inr (v, D1))) : am_C E mL_join 6 1 6 [.ref 16, .int p1, .int p2, .ref 2637] am_G0 D (.inl (some (.int 0))) am_G0 (am_wL D1 2637 0 v.toInt64) := by
  refine am_C_of (by decide +kernel) (Nat.le_of_ble_eq_true rfl) ?_
  change am_S E mL_join 6 1 6 (.inl (some (.int 0))) am_G0 (am_wL D1 2637 0 v.toInt64) 0 0 0 [(0, .ref 16), (1, .int p1), (2, .int p2), (3, .ref 2637)] [] am_G0 D
  refine am_aload_n (am_dec tmL_join 0 rfl) rfl rfl ?_
  refine am_iconst (v := (0 : Int32)) (am_dec tmL_join 1 rfl) (by decide) ?_
  refine am_aload_n (am_dec tmL_join 2 rfl) rfl rfl ?_
  refine am_iload_n (am_dec tmL_join 3 rfl) rfl rfl ?_
  refine am_iload_n (am_dec tmL_join 4 rfl) rfl rfl ?_
  refine am_callV1 (As := [.int p1, .int p2]) (st := [.int 0, .ref 2637]) hE (am_dec tmL_join 5 rfl) ok_X11_join rfl lmL_121 in_X11_join se_X11_join sh_16 cf11 (c_X11_join hE hf) rfl (by decide) (Nat.le_of_ble_eq_true rfl) (Nat.zero_le _) (Nat.zero_le _) rfl ?_
  refine am_i2l (am_dec tmL_join 6 rfl) ?_
  refine am_last2 (n := 1) (i := 0) (D2 := am_wL D1 2637 0 v.toInt64) hE (am_dec tmL_join 7 rfl) shq_2637 (k_pl (k := 0) _ (by decide) (by decide)) ?_
  refine am_goto (tgt := 17) (am_dec tmL_join 8 rfl) (by decide) ?_
  refine am_iconst (v := (0 : Int32)) (am_dec tmL_join 12 rfl) (by decide) ?_
  exact am_iret (am_dec tmL_join 13 rfl) rfl (Nat.zero_le _) (Nat.zero_le _)
set_option maxRecDepth 100000 in
set_option maxHeartbeats 4000000 in
theorem xw_join_1 {E : am_E} (hE : am_EH E) {p1 p2 : Int32} {D D1 : am_D} (hf : f_X11_join p1 p2 D = some (.inl ("java/util/NoSuchElementException", D1))) : am_C E mL_join 6 1 6 [.ref 16, .int p1, .int p2, .ref 2637] am_G0 D (.inl (some (.int 1))) am_G0 D1 := by
  refine am_C_of (by decide +kernel) (Nat.le_of_ble_eq_true rfl) ?_
  change am_S E mL_join 6 1 6 (.inl (some (.int 1))) am_G0 D1 0 0 0 [(0, .ref 16), (1, .int p1), (2, .int p2), (3, .ref 2637)] [] am_G0 D
  refine am_aload_n (am_dec tmL_join 0 rfl) rfl rfl ?_
  refine am_iconst (v := (0 : Int32)) (am_dec tmL_join 1 rfl) (by decide) ?_
  refine am_aload_n (am_dec tmL_join 2 rfl) rfl rfl ?_
  refine am_iload_n (am_dec tmL_join 3 rfl) rfl rfl ?_
  refine am_iload_n (am_dec tmL_join 4 rfl) rfl rfl ?_
  refine am_callV_catch (As := [.int p1, .int p2]) (st := [.int 0, .ref 2637]) (pre := []) (suf := []) (x := (0, 10, 13, 21)) (i := 4) (np := 15) hE (am_dec tmL_join 5 rfl) ok_X11_join rfl lmL_121 in_X11_join se_X11_join sh_16 cf11 (t_X11_join hE hf) rfl (by decide) (Nat.le_of_ble_eq_true rfl) (Nat.le_refl _) (Nat.le_refl _) rfl rfl (fun z hz => nomatch hz) (by decide) (by decide) lcL_NSE lcs_NSE (Or.inr ⟨(am_dec tmL_join 9 rfl), rfl⟩) (by decide) ?_
  refine am_iconst (v := (1 : Int32)) (am_dec tmL_join 10 rfl) (by decide) ?_
  exact am_iret (am_dec tmL_join 11 rfl) rfl (Nat.le_refl _) (Nat.le_refl _)
set_option maxRecDepth 100000 in
set_option maxHeartbeats 4000000 in
theorem cw_shift {E : am_E} (hE : am_EH E) {p1 p2 p3 : Int32} {D D1 : am_D} {v : Int32} (hf : f_X11_shift p1 p2 p3 D = some (.inr (v, D1))) : am_C E mL_shift 7 1 6 [.ref 16, .int p1, .int p2, .int p3, .ref 2637] am_G0 D (.inl (some (.int 0))) am_G0 (am_wL D1 2637 0 v.toInt64) := by
  refine am_C_of (by decide +kernel) (Nat.le_of_ble_eq_true rfl) ?_
  change am_S E mL_shift 7 1 6 (.inl (some (.int 0))) am_G0 (am_wL D1 2637 0 v.toInt64) 0 0 0 [(0, .ref 16), (1, .int p1), (2, .int p2), (3, .int p3), (4, .ref 2637)] [] am_G0 D
  refine am_aload (am_dec tmL_shift 0 rfl) rfl ?_
  refine am_iconst (v := (0 : Int32)) (am_dec tmL_shift 1 rfl) (by decide) ?_
  refine am_aload_n (am_dec tmL_shift 2 rfl) rfl rfl ?_
  refine am_iload_n (am_dec tmL_shift 3 rfl) rfl rfl ?_
  refine am_iload_n (am_dec tmL_shift 4 rfl) rfl rfl ?_
  refine am_iload_n (am_dec tmL_shift 5 rfl) rfl rfl ?_
  refine am_callV1 (As := [.int p1, .int p2, .int p3]) (st := [.int 0, .ref 2637]) hE (am_dec tmL_shift 6 rfl) ok_X11_shift rfl lmL_124 in_X11_shift se_X11_shift sh_16 cf11 (c_X11_shift hE hf) rfl (by decide) (Nat.le_of_ble_eq_true rfl) (Nat.zero_le _) (Nat.zero_le _) rfl ?_
  refine am_i2l (am_dec tmL_shift 7 rfl) ?_
  refine am_last2 (n := 1) (i := 0) (D2 := am_wL D1 2637 0 v.toInt64) hE (am_dec tmL_shift 8 rfl) shq_2637 (k_pl (k := 0) _ (by decide) (by decide)) ?_
  refine am_goto (tgt := 27) (am_dec tmL_shift 9 rfl) (by decide) ?_
  refine am_iconst (v := (0 : Int32)) (am_dec tmL_shift 19 rfl) (by decide) ?_
  exact am_iret (am_dec tmL_shift 20 rfl) rfl (Nat.zero_le _) (Nat.zero_le _)
set_option maxRecDepth 100000 in
set_option maxHeartbeats 4000000 in
theorem xw_shift_1 {E : am_E} (hE : am_EH E) {p1 p2 p3 : Int32} {D D1 : am_D} (hf : f_X11_shift p1 p2 p3 D = some (.inl ("java/util/NoSuchElementException", D1))) : am_C E mL_shift 7 1 6 [.ref 16, .int p1, .int p2, .int p3, .ref 2637] am_G0 D (.inl (some (.int 1))) am_G0 D1 := by
  refine am_C_of (by decide +kernel) (Nat.le_of_ble_eq_true rfl) ?_
  change am_S E mL_shift 7 1 6 (.inl (some (.int 1))) am_G0 D1 0 0 0 [(0, .ref 16), (1, .int p1), (2, .int p2), (3, .int p3), (4, .ref 2637)] [] am_G0 D
  refine am_aload (am_dec tmL_shift 0 rfl) rfl ?_
  refine am_iconst (v := (0 : Int32)) (am_dec tmL_shift 1 rfl) (by decide) ?_
  refine am_aload_n (am_dec tmL_shift 2 rfl) rfl rfl ?_
  refine am_iload_n (am_dec tmL_shift 3 rfl) rfl rfl ?_
  refine am_iload_n (am_dec tmL_shift 4 rfl) rfl rfl ?_
  refine am_iload_n (am_dec tmL_shift 5 rfl) rfl rfl ?_
  refine am_callV_catch (As := [.int p1, .int p2, .int p3]) (st := [.int 0, .ref 2637]) (pre := []) (suf := [(0, 12, 19, 13), (0, 12, 23, 45)]) (x := (0, 12, 15, 21)) (i := 5) (np := 17) hE (am_dec tmL_shift 6 rfl) ok_X11_shift rfl lmL_124 in_X11_shift se_X11_shift sh_16 cf11 (t_X11_shift hE hf) rfl (by decide) (Nat.le_of_ble_eq_true rfl) (Nat.le_refl _) (Nat.le_refl _) rfl rfl (fun z hz => nomatch hz) (by decide) (by decide) lcL_NSE lcs_NSE (Or.inr ⟨(am_dec tmL_shift 10 rfl), rfl⟩) (by decide) ?_
  refine am_iconst (v := (1 : Int32)) (am_dec tmL_shift 11 rfl) (by decide) ?_
  exact am_iret (am_dec tmL_shift 12 rfl) rfl (Nat.le_refl _) (Nat.le_refl _)
set_option maxRecDepth 100000 in
set_option maxHeartbeats 4000000 in
theorem xw_shift_2 {E : am_E} (hE : am_EH E) {p1 p2 p3 : Int32} {D D1 : am_D} (hf : f_X11_shift p1 p2 p3 D = some (.inl ("java/lang/IllegalArgumentException", D1))) : am_C E mL_shift 7 1 6 [.ref 16, .int p1, .int p2, .int p3, .ref 2637] am_G0 D (.inl (some (.int 2))) am_G0 D1 := by
  refine am_C_of (by decide +kernel) (Nat.le_of_ble_eq_true rfl) ?_
  change am_S E mL_shift 7 1 6 (.inl (some (.int 2))) am_G0 D1 0 0 0 [(0, .ref 16), (1, .int p1), (2, .int p2), (3, .int p3), (4, .ref 2637)] [] am_G0 D
  refine am_aload (am_dec tmL_shift 0 rfl) rfl ?_
  refine am_iconst (v := (0 : Int32)) (am_dec tmL_shift 1 rfl) (by decide) ?_
  refine am_aload_n (am_dec tmL_shift 2 rfl) rfl rfl ?_
  refine am_iload_n (am_dec tmL_shift 3 rfl) rfl rfl ?_
  refine am_iload_n (am_dec tmL_shift 4 rfl) rfl rfl ?_
  refine am_iload_n (am_dec tmL_shift 5 rfl) rfl rfl ?_
  refine am_callV_catch (As := [.int p1, .int p2, .int p3]) (st := [.int 0, .ref 2637]) (pre := [(0, 12, 15, 21)]) (suf := [(0, 12, 23, 45)]) (x := (0, 12, 19, 13)) (i := 5) (np := 21) hE (am_dec tmL_shift 6 rfl) ok_X11_shift rfl lmL_124 in_X11_shift se_X11_shift sh_16 cf11 (t_X11_shift hE hf) rfl (by decide) (Nat.le_of_ble_eq_true rfl) (Nat.le_refl _) (Nat.le_refl _) rfl rfl (List.forall_mem_cons.mpr ⟨⟨by decide, "java/util/NoSuchElementException", lcL_NSE, lnc_IAE_NSE⟩, (fun z hz => nomatch hz)⟩) (by decide) (by decide) lcL_IAE lcs_IAE (Or.inr ⟨(am_dec tmL_shift 13 rfl), rfl⟩) (by decide) ?_
  refine am_iconst (v := (2 : Int32)) (am_dec tmL_shift 14 rfl) (by decide) ?_
  exact am_iret (am_dec tmL_shift 15 rfl) rfl (Nat.le_refl _) (Nat.le_refl _)
set_option maxRecDepth 100000 in
set_option maxHeartbeats 4000000 in
theorem xw_shift_3 {E : am_E} (hE : am_EH E) {p1 p2 p3 : Int32} {D D1 : am_D} (hf : f_X11_shift p1 p2 p3 D = some (.inl ("java/lang/IllegalStateException", D1))) : am_C E mL_shift 7 1 6 [.ref 16, .int p1, .int p2, .int p3, .ref 2637] am_G0 D (.inl (some (.int 3))) am_G0 D1 := by
  refine am_C_of (by decide +kernel) (Nat.le_of_ble_eq_true rfl) ?_
  change am_S E mL_shift 7 1 6 (.inl (some (.int 3))) am_G0 D1 0 0 0 [(0, .ref 16), (1, .int p1), (2, .int p2), (3, .int p3), (4, .ref 2637)] [] am_G0 D
  refine am_aload (am_dec tmL_shift 0 rfl) rfl ?_
  refine am_iconst (v := (0 : Int32)) (am_dec tmL_shift 1 rfl) (by decide) ?_
  refine am_aload_n (am_dec tmL_shift 2 rfl) rfl rfl ?_
  refine am_iload_n (am_dec tmL_shift 3 rfl) rfl rfl ?_
  refine am_iload_n (am_dec tmL_shift 4 rfl) rfl rfl ?_
  refine am_iload_n (am_dec tmL_shift 5 rfl) rfl rfl ?_
  refine am_callV_catch (As := [.int p1, .int p2, .int p3]) (st := [.int 0, .ref 2637]) (pre := [(0, 12, 15, 21), (0, 12, 19, 13)]) (suf := []) (x := (0, 12, 23, 45)) (i := 5) (np := 25) hE (am_dec tmL_shift 6 rfl) ok_X11_shift rfl lmL_124 in_X11_shift se_X11_shift sh_16 cf11 (t_X11_shift hE hf) rfl (by decide) (Nat.le_of_ble_eq_true rfl) (Nat.le_refl _) (Nat.le_refl _) rfl rfl (List.forall_mem_cons.mpr ⟨⟨by decide, "java/util/NoSuchElementException", lcL_NSE, lnc_ISE_NSE⟩, (List.forall_mem_cons.mpr ⟨⟨by decide, "java/lang/IllegalArgumentException", lcL_IAE, lnc_ISE_IAE⟩, (fun z hz => nomatch hz)⟩)⟩) (by decide) (by decide) lcL_ISE lcs_ISE (Or.inr ⟨(am_dec tmL_shift 16 rfl), rfl⟩) (by decide) ?_
  refine am_iconst (v := (3 : Int32)) (am_dec tmL_shift 17 rfl) (by decide) ?_
  exact am_iret (am_dec tmL_shift 18 rfl) rfl (Nat.le_refl _) (Nat.le_refl _)
set_option maxRecDepth 100000 in
set_option maxHeartbeats 4000000 in
theorem cw_colour {E : am_E} (hE : am_EH E) {p1 p2 : Int32} {D D1 : am_D} {v : Int32} (hf : k_lf D (f_X11_colour p1 p2 D) = some (.inr (v, D1))) : am_C E mL_colour 4 1 6 [.ref 16, .int p1, .int p2, .ref 2637] am_G0 D (.inl (some (.int 0))) am_G0 (am_wL D1 2637 0 v.toInt64) := by
  refine am_C_of (by decide +kernel) (Nat.le_of_ble_eq_true rfl) ?_
  change am_S E mL_colour 4 1 6 (.inl (some (.int 0))) am_G0 (am_wL D1 2637 0 v.toInt64) 0 0 0 [(0, .ref 16), (1, .int p1), (2, .int p2), (3, .ref 2637)] [] am_G0 D
  obtain ⟨h9, rfl⟩ := k_lf_r hf
  have hf := h9
  refine am_aload_n (am_dec tmL_colour 0 rfl) rfl rfl ?_
  refine am_iconst (v := (0 : Int32)) (am_dec tmL_colour 1 rfl) (by decide) ?_
  refine am_aload_n (am_dec tmL_colour 2 rfl) rfl rfl ?_
  refine am_iload_n (am_dec tmL_colour 3 rfl) rfl rfl ?_
  refine am_iload_n (am_dec tmL_colour 4 rfl) rfl rfl ?_
  refine am_callV1 (As := [.int p1, .int p2]) (st := [.int 0, .ref 2637]) hE (am_dec tmL_colour 5 rfl) ok_X11_colour rfl lmL_127 in_X11_colour se_X11_colour sh_16 cf11 (c_X11_colour hE hf) rfl (by decide) (Nat.le_of_ble_eq_true rfl) (Nat.zero_le _) (Nat.zero_le _) rfl ?_
  refine am_i2l (am_dec tmL_colour 6 rfl) ?_
  refine am_last2 (n := 1) (i := 0) (D2 := am_wL D1 2637 0 v.toInt64) hE (am_dec tmL_colour 7 rfl) shq_2637 (k_pl (k := 0) _ (by decide) (by decide)) ?_
  refine am_goto (tgt := 21) (am_dec tmL_colour 8 rfl) (by decide) ?_
  refine am_iconst (v := (0 : Int32)) (am_dec tmL_colour 15 rfl) (by decide) ?_
  exact am_iret (am_dec tmL_colour 16 rfl) rfl (Nat.zero_le _) (Nat.zero_le _)
set_option maxRecDepth 100000 in
set_option maxHeartbeats 4000000 in
theorem xw_colour_1 {E : am_E} (hE : am_EH E) {p1 p2 : Int32} {D D1 : am_D} (hf : k_lf D (f_X11_colour p1 p2 D) = some (.inl ("java/util/NoSuchElementException", D1))) : am_C E mL_colour 4 1 6 [.ref 16, .int p1, .int p2, .ref 2637] am_G0 D (.inl (some (.int 1))) am_G0 D1 := by
  refine am_C_of (by decide +kernel) (Nat.le_of_ble_eq_true rfl) ?_
  change am_S E mL_colour 4 1 6 (.inl (some (.int 1))) am_G0 D1 0 0 0 [(0, .ref 16), (1, .int p1), (2, .int p2), (3, .ref 2637)] [] am_G0 D
  obtain ⟨h9, rfl⟩ := k_lf_l hf
  have hf := h9
  refine am_aload_n (am_dec tmL_colour 0 rfl) rfl rfl ?_
  refine am_iconst (v := (0 : Int32)) (am_dec tmL_colour 1 rfl) (by decide) ?_
  refine am_aload_n (am_dec tmL_colour 2 rfl) rfl rfl ?_
  refine am_iload_n (am_dec tmL_colour 3 rfl) rfl rfl ?_
  refine am_iload_n (am_dec tmL_colour 4 rfl) rfl rfl ?_
  refine am_callV_catch (As := [.int p1, .int p2]) (st := [.int 0, .ref 2637]) (pre := []) (suf := [(0, 10, 17, 13)]) (x := (0, 10, 13, 21)) (i := 4) (np := 15) hE (am_dec tmL_colour 5 rfl) ok_X11_colour rfl lmL_127 in_X11_colour se_X11_colour sh_16 cf11 (t_X11_colour hE hf) rfl (by decide) (Nat.le_of_ble_eq_true rfl) (Nat.le_refl _) (Nat.le_refl _) rfl rfl (fun z hz => nomatch hz) (by decide) (by decide) lcL_NSE lcs_NSE (Or.inr ⟨(am_dec tmL_colour 9 rfl), rfl⟩) (by decide) ?_
  refine am_iconst (v := (1 : Int32)) (am_dec tmL_colour 10 rfl) (by decide) ?_
  exact am_iret (am_dec tmL_colour 11 rfl) rfl (Nat.le_refl _) (Nat.le_refl _)
set_option maxRecDepth 100000 in
set_option maxHeartbeats 4000000 in
theorem xw_colour_2 {E : am_E} (hE : am_EH E) {p1 p2 : Int32} {D D1 : am_D} (hf : k_lf D (f_X11_colour p1 p2 D) = some (.inl ("java/lang/IllegalArgumentException", D1))) : am_C E mL_colour 4 1 6 [.ref 16, .int p1, .int p2, .ref 2637] am_G0 D (.inl (some (.int 2))) am_G0 D1 := by
  refine am_C_of (by decide +kernel) (Nat.le_of_ble_eq_true rfl) ?_
  change am_S E mL_colour 4 1 6 (.inl (some (.int 2))) am_G0 D1 0 0 0 [(0, .ref 16), (1, .int p1), (2, .int p2), (3, .ref 2637)] [] am_G0 D
  obtain ⟨h9, rfl⟩ := k_lf_l hf
  have hf := h9
  refine am_aload_n (am_dec tmL_colour 0 rfl) rfl rfl ?_
  refine am_iconst (v := (0 : Int32)) (am_dec tmL_colour 1 rfl) (by decide) ?_
  refine am_aload_n (am_dec tmL_colour 2 rfl) rfl rfl ?_
  refine am_iload_n (am_dec tmL_colour 3 rfl) rfl rfl ?_
  refine am_iload_n (am_dec tmL_colour 4 rfl) rfl rfl ?_
  refine am_callV_catch (As := [.int p1, .int p2]) (st := [.int 0, .ref 2637]) (pre := [(0, 10, 13, 21)]) (suf := []) (x := (0, 10, 17, 13)) (i := 4) (np := 19) hE (am_dec tmL_colour 5 rfl) ok_X11_colour rfl lmL_127 in_X11_colour se_X11_colour sh_16 cf11 (t_X11_colour hE hf) rfl (by decide) (Nat.le_of_ble_eq_true rfl) (Nat.le_refl _) (Nat.le_refl _) rfl rfl (List.forall_mem_cons.mpr ⟨⟨by decide, "java/util/NoSuchElementException", lcL_NSE, lnc_IAE_NSE⟩, (fun z hz => nomatch hz)⟩) (by decide) (by decide) lcL_IAE lcs_IAE (Or.inr ⟨(am_dec tmL_colour 12 rfl), rfl⟩) (by decide) ?_
  refine am_iconst (v := (2 : Int32)) (am_dec tmL_colour 13 rfl) (by decide) ?_
  exact am_iret (am_dec tmL_colour 14 rfl) rfl (Nat.le_refl _) (Nat.le_refl _)
set_option maxRecDepth 100000 in
set_option maxHeartbeats 4000000 in
theorem cw_peak {E : am_E} (hE : am_EH E) {p1 p2 p3 p4 : Int32} {D D1 : am_D} {v : Int32} (hf : f_X11_peak p1 p2 p3 p4 D = some (.inr (v, D1))) : am_C E mL_peak 6 1 6 [.ref 16, .int p1, .int p2, .int p3, .int p4, .ref 2637] am_G0 D (.inl (some (.int 0))) am_G0 (am_wL D1 2637 0 v.toInt64) := by
  refine am_C_of (by decide +kernel) (Nat.le_of_ble_eq_true rfl) ?_
  change am_S E mL_peak 6 1 6 (.inl (some (.int 0))) am_G0 (am_wL D1 2637 0 v.toInt64) 0 0 0 [(0, .ref 16), (1, .int p1), (2, .int p2), (3, .int p3), (4, .int p4), (5, .ref 2637)] [] am_G0 D
  refine am_aload (am_dec tmL_peak 0 rfl) rfl ?_
  refine am_iconst (v := (0 : Int32)) (am_dec tmL_peak 1 rfl) (by decide) ?_
  refine am_aload_n (am_dec tmL_peak 2 rfl) rfl rfl ?_
  refine am_iload_n (am_dec tmL_peak 3 rfl) rfl rfl ?_
  refine am_iload_n (am_dec tmL_peak 4 rfl) rfl rfl ?_
  refine am_iload_n (am_dec tmL_peak 5 rfl) rfl rfl ?_
  refine am_iload (am_dec tmL_peak 6 rfl) rfl ?_
  refine am_callV1 (As := [.int p1, .int p2, .int p3, .int p4]) (st := [.int 0, .ref 2637]) hE (am_dec tmL_peak 7 rfl) ok_X11_peak rfl lmL_130 in_X11_peak se_X11_peak sh_16 cf11 (c_X11_peak hE hf) rfl (by decide) (Nat.le_of_ble_eq_true rfl) (Nat.zero_le _) (Nat.zero_le _) rfl ?_
  refine am_i2l (am_dec tmL_peak 8 rfl) ?_
  refine am_last2 (n := 1) (i := 0) (D2 := am_wL D1 2637 0 v.toInt64) hE (am_dec tmL_peak 9 rfl) shq_2637 (k_pl (k := 0) _ (by decide) (by decide)) ?_
  refine am_goto (tgt := 25) (am_dec tmL_peak 10 rfl) (by decide) ?_
  refine am_iconst (v := (0 : Int32)) (am_dec tmL_peak 17 rfl) (by decide) ?_
  exact am_iret (am_dec tmL_peak 18 rfl) rfl (Nat.zero_le _) (Nat.zero_le _)
set_option maxRecDepth 100000 in
set_option maxHeartbeats 4000000 in
theorem xw_peak_1 {E : am_E} (hE : am_EH E) {p1 p2 p3 p4 : Int32} {D D1 : am_D} (hf : f_X11_peak p1 p2 p3 p4 D = some (.inl ("java/util/NoSuchElementException", D1))) : am_C E mL_peak 6 1 6 [.ref 16, .int p1, .int p2, .int p3, .int p4, .ref 2637] am_G0 D (.inl (some (.int 1))) am_G0 D1 := by
  refine am_C_of (by decide +kernel) (Nat.le_of_ble_eq_true rfl) ?_
  change am_S E mL_peak 6 1 6 (.inl (some (.int 1))) am_G0 D1 0 0 0 [(0, .ref 16), (1, .int p1), (2, .int p2), (3, .int p3), (4, .int p4), (5, .ref 2637)] [] am_G0 D
  refine am_aload (am_dec tmL_peak 0 rfl) rfl ?_
  refine am_iconst (v := (0 : Int32)) (am_dec tmL_peak 1 rfl) (by decide) ?_
  refine am_aload_n (am_dec tmL_peak 2 rfl) rfl rfl ?_
  refine am_iload_n (am_dec tmL_peak 3 rfl) rfl rfl ?_
  refine am_iload_n (am_dec tmL_peak 4 rfl) rfl rfl ?_
  refine am_iload_n (am_dec tmL_peak 5 rfl) rfl rfl ?_
  refine am_iload (am_dec tmL_peak 6 rfl) rfl ?_
  refine am_callV_catch (As := [.int p1, .int p2, .int p3, .int p4]) (st := [.int 0, .ref 2637]) (pre := []) (suf := [(0, 14, 21, 13)]) (x := (0, 14, 17, 21)) (i := 6) (np := 19) hE (am_dec tmL_peak 7 rfl) ok_X11_peak rfl lmL_130 in_X11_peak se_X11_peak sh_16 cf11 (t_X11_peak hE hf) rfl (by decide) (Nat.le_of_ble_eq_true rfl) (Nat.le_refl _) (Nat.le_refl _) rfl rfl (fun z hz => nomatch hz) (by decide) (by decide) lcL_NSE lcs_NSE (Or.inr ⟨(am_dec tmL_peak 11 rfl), rfl⟩) (by decide) ?_
  refine am_iconst (v := (1 : Int32)) (am_dec tmL_peak 12 rfl) (by decide) ?_
  exact am_iret (am_dec tmL_peak 13 rfl) rfl (Nat.le_refl _) (Nat.le_refl _)
set_option maxRecDepth 100000 in
set_option maxHeartbeats 4000000 in
theorem xw_peak_2 {E : am_E} (hE : am_EH E) {p1 p2 p3 p4 : Int32} {D D1 : am_D} (hf : f_X11_peak p1 p2 p3 p4 D = some (.inl ("java/lang/IllegalArgumentException", D1))) : am_C E mL_peak 6 1 6 [.ref 16, .int p1, .int p2, .int p3, .int p4, .ref 2637] am_G0 D (.inl (some (.int 2))) am_G0 D1 := by
  refine am_C_of (by decide +kernel) (Nat.le_of_ble_eq_true rfl) ?_
  change am_S E mL_peak 6 1 6 (.inl (some (.int 2))) am_G0 D1 0 0 0 [(0, .ref 16), (1, .int p1), (2, .int p2), (3, .int p3), (4, .int p4), (5, .ref 2637)] [] am_G0 D
  refine am_aload (am_dec tmL_peak 0 rfl) rfl ?_
  refine am_iconst (v := (0 : Int32)) (am_dec tmL_peak 1 rfl) (by decide) ?_
  refine am_aload_n (am_dec tmL_peak 2 rfl) rfl rfl ?_
  refine am_iload_n (am_dec tmL_peak 3 rfl) rfl rfl ?_
  refine am_iload_n (am_dec tmL_peak 4 rfl) rfl rfl ?_
  refine am_iload_n (am_dec tmL_peak 5 rfl) rfl rfl ?_
  refine am_iload (am_dec tmL_peak 6 rfl) rfl ?_
  refine am_callV_catch (As := [.int p1, .int p2, .int p3, .int p4]) (st := [.int 0, .ref 2637]) (pre := [(0, 14, 17, 21)]) (suf := []) (x := (0, 14, 21, 13)) (i := 6) (np := 23) hE (am_dec tmL_peak 7 rfl) ok_X11_peak rfl lmL_130 in_X11_peak se_X11_peak sh_16 cf11 (t_X11_peak hE hf) rfl (by decide) (Nat.le_of_ble_eq_true rfl) (Nat.le_refl _) (Nat.le_refl _) rfl rfl (List.forall_mem_cons.mpr ⟨⟨by decide, "java/util/NoSuchElementException", lcL_NSE, lnc_IAE_NSE⟩, (fun z hz => nomatch hz)⟩) (by decide) (by decide) lcL_IAE lcs_IAE (Or.inr ⟨(am_dec tmL_peak 14 rfl), rfl⟩) (by decide) ?_
  refine am_iconst (v := (2 : Int32)) (am_dec tmL_peak 15 rfl) (by decide) ?_
  exact am_iret (am_dec tmL_peak 16 rfl) rfl (Nat.le_refl _) (Nat.le_refl _)
set_option maxRecDepth 100000 in
set_option maxHeartbeats 4000000 in
theorem cw_lock {E : am_E} (hE : am_EH E) {p1 p2 p3 p4 : Int32} {D D1 : am_D} {v : Int32} (hf : f_X11_lock p1 p2 p3 p4 D = some (.inr (v, D1))) : am_C E mL_lock 5 1 6 [.ref 16, .int p1, .int p2, .int p3, .int p4, .ref 2637] am_G0 D (.inl (some (.int 0))) am_G0 (am_wL D1 2637 0 v.toInt64) := by
  refine am_C_of (by decide +kernel) (Nat.le_of_ble_eq_true rfl) ?_
  change am_S E mL_lock 5 1 6 (.inl (some (.int 0))) am_G0 (am_wL D1 2637 0 v.toInt64) 0 0 0 [(0, .ref 16), (1, .int p1), (2, .int p2), (3, .int p3), (4, .int p4), (5, .ref 2637)] [] am_G0 D
  refine am_aload (am_dec tmL_lock 0 rfl) rfl ?_
  refine am_iconst (v := (0 : Int32)) (am_dec tmL_lock 1 rfl) (by decide) ?_
  refine am_aload_n (am_dec tmL_lock 2 rfl) rfl rfl ?_
  refine am_iload_n (am_dec tmL_lock 3 rfl) rfl rfl ?_
  refine am_iload_n (am_dec tmL_lock 4 rfl) rfl rfl ?_
  refine am_iload_n (am_dec tmL_lock 5 rfl) rfl rfl ?_
  refine am_iload (am_dec tmL_lock 6 rfl) rfl ?_
  refine am_callV1 (As := [.int p1, .int p2, .int p3, .int p4]) (st := [.int 0, .ref 2637]) hE (am_dec tmL_lock 7 rfl) ok_X11_lock rfl lmL_133 in_X11_lock se_X11_lock sh_16 cf11 (c_X11_lock hE hf) rfl (by decide) (Nat.le_of_ble_eq_true rfl) (Nat.zero_le _) (Nat.zero_le _) rfl ?_
  refine am_i2l (am_dec tmL_lock 8 rfl) ?_
  refine am_last2 (n := 1) (i := 0) (D2 := am_wL D1 2637 0 v.toInt64) hE (am_dec tmL_lock 9 rfl) shq_2637 (k_pl (k := 0) _ (by decide) (by decide)) ?_
  refine am_goto (tgt := 25) (am_dec tmL_lock 10 rfl) (by decide) ?_
  refine am_iconst (v := (0 : Int32)) (am_dec tmL_lock 17 rfl) (by decide) ?_
  exact am_iret (am_dec tmL_lock 18 rfl) rfl (Nat.zero_le _) (Nat.zero_le _)
set_option maxRecDepth 100000 in
set_option maxHeartbeats 4000000 in
theorem xw_lock_1 {E : am_E} (hE : am_EH E) {p1 p2 p3 p4 : Int32} {D D1 : am_D} (hf : f_X11_lock p1 p2 p3 p4 D = some (.inl ("java/util/NoSuchElementException", D1))) : am_C E mL_lock 5 1 6 [.ref 16, .int p1, .int p2, .int p3, .int p4, .ref 2637] am_G0 D (.inl (some (.int 1))) am_G0 D1 := by
  refine am_C_of (by decide +kernel) (Nat.le_of_ble_eq_true rfl) ?_
  change am_S E mL_lock 5 1 6 (.inl (some (.int 1))) am_G0 D1 0 0 0 [(0, .ref 16), (1, .int p1), (2, .int p2), (3, .int p3), (4, .int p4), (5, .ref 2637)] [] am_G0 D
  refine am_aload (am_dec tmL_lock 0 rfl) rfl ?_
  refine am_iconst (v := (0 : Int32)) (am_dec tmL_lock 1 rfl) (by decide) ?_
  refine am_aload_n (am_dec tmL_lock 2 rfl) rfl rfl ?_
  refine am_iload_n (am_dec tmL_lock 3 rfl) rfl rfl ?_
  refine am_iload_n (am_dec tmL_lock 4 rfl) rfl rfl ?_
  refine am_iload_n (am_dec tmL_lock 5 rfl) rfl rfl ?_
  refine am_iload (am_dec tmL_lock 6 rfl) rfl ?_
  refine am_callV_catch (As := [.int p1, .int p2, .int p3, .int p4]) (st := [.int 0, .ref 2637]) (pre := []) (suf := [(0, 14, 21, 13)]) (x := (0, 14, 17, 21)) (i := 6) (np := 19) hE (am_dec tmL_lock 7 rfl) ok_X11_lock rfl lmL_133 in_X11_lock se_X11_lock sh_16 cf11 (t_X11_lock hE hf) rfl (by decide) (Nat.le_of_ble_eq_true rfl) (Nat.le_refl _) (Nat.le_refl _) rfl rfl (fun z hz => nomatch hz) (by decide) (by decide) lcL_NSE lcs_NSE (Or.inr ⟨(am_dec tmL_lock 11 rfl), rfl⟩) (by decide) ?_
  refine am_iconst (v := (1 : Int32)) (am_dec tmL_lock 12 rfl) (by decide) ?_
  exact am_iret (am_dec tmL_lock 13 rfl) rfl (Nat.le_refl _) (Nat.le_refl _)
set_option maxRecDepth 100000 in
set_option maxHeartbeats 4000000 in
theorem xw_lock_2 {E : am_E} (hE : am_EH E) {p1 p2 p3 p4 : Int32} {D D1 : am_D} (hf : f_X11_lock p1 p2 p3 p4 D = some (.inl ("java/lang/IllegalArgumentException", D1))) : am_C E mL_lock 5 1 6 [.ref 16, .int p1, .int p2, .int p3, .int p4, .ref 2637] am_G0 D (.inl (some (.int 2))) am_G0 D1 := by
  refine am_C_of (by decide +kernel) (Nat.le_of_ble_eq_true rfl) ?_
  change am_S E mL_lock 5 1 6 (.inl (some (.int 2))) am_G0 D1 0 0 0 [(0, .ref 16), (1, .int p1), (2, .int p2), (3, .int p3), (4, .int p4), (5, .ref 2637)] [] am_G0 D
  refine am_aload (am_dec tmL_lock 0 rfl) rfl ?_
  refine am_iconst (v := (0 : Int32)) (am_dec tmL_lock 1 rfl) (by decide) ?_
  refine am_aload_n (am_dec tmL_lock 2 rfl) rfl rfl ?_
  refine am_iload_n (am_dec tmL_lock 3 rfl) rfl rfl ?_
  refine am_iload_n (am_dec tmL_lock 4 rfl) rfl rfl ?_
  refine am_iload_n (am_dec tmL_lock 5 rfl) rfl rfl ?_
  refine am_iload (am_dec tmL_lock 6 rfl) rfl ?_
  refine am_callV_catch (As := [.int p1, .int p2, .int p3, .int p4]) (st := [.int 0, .ref 2637]) (pre := [(0, 14, 17, 21)]) (suf := []) (x := (0, 14, 21, 13)) (i := 6) (np := 23) hE (am_dec tmL_lock 7 rfl) ok_X11_lock rfl lmL_133 in_X11_lock se_X11_lock sh_16 cf11 (t_X11_lock hE hf) rfl (by decide) (Nat.le_of_ble_eq_true rfl) (Nat.le_refl _) (Nat.le_refl _) rfl rfl (List.forall_mem_cons.mpr ⟨⟨by decide, "java/util/NoSuchElementException", lcL_NSE, lnc_IAE_NSE⟩, (fun z hz => nomatch hz)⟩) (by decide) (by decide) lcL_IAE lcs_IAE (Or.inr ⟨(am_dec tmL_lock 14 rfl), rfl⟩) (by decide) ?_
  refine am_iconst (v := (2 : Int32)) (am_dec tmL_lock 15 rfl) (by decide) ?_
  exact am_iret (am_dec tmL_lock 16 rfl) rfl (Nat.le_refl _) (Nat.le_refl _)
set_option maxRecDepth 100000 in
set_option maxHeartbeats 4000000 in
theorem cw_steady {E : am_E} (hE : am_EH E) {p1 : Int32} {D D1 : am_D} {v : Int32} (hf : f_X11_steady p1 D = some (.inr (v, D1))) : am_C E mL_steady 6 1 6 [.ref 16, .int p1, .ref 2637] am_G0 D (.inl (some (.int 0))) am_G0 (am_wL D1 2637 0 v.toInt64) := by
  refine am_C_of (by decide +kernel) (Nat.le_of_ble_eq_true rfl) ?_
  change am_S E mL_steady 6 1 6 (.inl (some (.int 0))) am_G0 (am_wL D1 2637 0 v.toInt64) 0 0 0 [(0, .ref 16), (1, .int p1), (2, .ref 2637)] [] am_G0 D
  refine am_aload_n (am_dec tmL_steady 0 rfl) rfl rfl ?_
  refine am_iconst (v := (0 : Int32)) (am_dec tmL_steady 1 rfl) (by decide) ?_
  refine am_aload_n (am_dec tmL_steady 2 rfl) rfl rfl ?_
  refine am_iload_n (am_dec tmL_steady 3 rfl) rfl rfl ?_
  refine am_callV1 (As := [.int p1]) (st := [.int 0, .ref 2637]) hE (am_dec tmL_steady 4 rfl) ok_X11_steady rfl lmL_136 in_X11_steady se_X11_steady sh_16 cf11 (c_X11_steady hE hf) rfl (by decide) (Nat.le_of_ble_eq_true rfl) (Nat.zero_le _) (Nat.zero_le _) rfl ?_
  refine am_i2l (am_dec tmL_steady 5 rfl) ?_
  refine am_last2 (n := 1) (i := 0) (D2 := am_wL D1 2637 0 v.toInt64) hE (am_dec tmL_steady 6 rfl) shq_2637 (k_pl (k := 0) _ (by decide) (by decide)) ?_
  refine am_goto (tgt := 15) (am_dec tmL_steady 7 rfl) (by decide) ?_
  refine am_iconst (v := (0 : Int32)) (am_dec tmL_steady 11 rfl) (by decide) ?_
  exact am_iret (am_dec tmL_steady 12 rfl) rfl (Nat.zero_le _) (Nat.zero_le _)
set_option maxRecDepth 100000 in
set_option maxHeartbeats 4000000 in
theorem xw_steady_1 {E : am_E} (hE : am_EH E) {p1 : Int32} {D D1 : am_D} (hf : f_X11_steady p1 D = some (.inl ("java/util/NoSuchElementException", D1))) : am_C E mL_steady 6 1 6 [.ref 16, .int p1, .ref 2637] am_G0 D (.inl (some (.int 1))) am_G0 D1 := by
  refine am_C_of (by decide +kernel) (Nat.le_of_ble_eq_true rfl) ?_
  change am_S E mL_steady 6 1 6 (.inl (some (.int 1))) am_G0 D1 0 0 0 [(0, .ref 16), (1, .int p1), (2, .ref 2637)] [] am_G0 D
  refine am_aload_n (am_dec tmL_steady 0 rfl) rfl rfl ?_
  refine am_iconst (v := (0 : Int32)) (am_dec tmL_steady 1 rfl) (by decide) ?_
  refine am_aload_n (am_dec tmL_steady 2 rfl) rfl rfl ?_
  refine am_iload_n (am_dec tmL_steady 3 rfl) rfl rfl ?_
  refine am_callV_catch (As := [.int p1]) (st := [.int 0, .ref 2637]) (pre := []) (suf := []) (x := (0, 9, 12, 21)) (i := 3) (np := 13) hE (am_dec tmL_steady 4 rfl) ok_X11_steady rfl lmL_136 in_X11_steady se_X11_steady sh_16 cf11 (t_X11_steady hE hf) rfl (by decide) (Nat.le_of_ble_eq_true rfl) (Nat.le_refl _) (Nat.le_refl _) rfl rfl (fun z hz => nomatch hz) (by decide) (by decide) lcL_NSE lcs_NSE (Or.inl ⟨3, (am_dec tmL_steady 8 rfl), rfl, rfl⟩) (by decide) ?_
  refine am_iconst (v := (1 : Int32)) (am_dec tmL_steady 9 rfl) (by decide) ?_
  exact am_iret (am_dec tmL_steady 10 rfl) rfl (Nat.le_refl _) (Nat.le_refl _)
set_option maxRecDepth 100000 in
set_option maxHeartbeats 4000000 in
theorem cw_film {E : am_E} (hE : am_EH E) {p1 p2 p3 : Int32} {D D1 : am_D} {v : Int32} (hf : f_X11_film p1 p2 p3 D = some (.inr (v, D1))) : am_C E mL_film 3 1 6 [.ref 16, .int p1, .int p2, .int p3, .ref 2637] am_G0 D (.inl (some (.int 0))) am_G0 (am_wL D1 2637 0 v.toInt64) := by
  refine am_C_of (by decide +kernel) (Nat.le_of_ble_eq_true rfl) ?_
  change am_S E mL_film 3 1 6 (.inl (some (.int 0))) am_G0 (am_wL D1 2637 0 v.toInt64) 0 0 0 [(0, .ref 16), (1, .int p1), (2, .int p2), (3, .int p3), (4, .ref 2637)] [] am_G0 D
  refine am_aload (am_dec tmL_film 0 rfl) rfl ?_
  refine am_iconst (v := (0 : Int32)) (am_dec tmL_film 1 rfl) (by decide) ?_
  refine am_aload_n (am_dec tmL_film 2 rfl) rfl rfl ?_
  refine am_iload_n (am_dec tmL_film 3 rfl) rfl rfl ?_
  refine am_iload_n (am_dec tmL_film 4 rfl) rfl rfl ?_
  refine am_iload_n (am_dec tmL_film 5 rfl) rfl rfl ?_
  refine am_callV1 (As := [.int p1, .int p2, .int p3]) (st := [.int 0, .ref 2637]) hE (am_dec tmL_film 6 rfl) ok_X11_film rfl lmL_139 in_X11_film se_X11_film sh_16 cf11 (c_X11_film hE hf) rfl (by decide) (Nat.le_of_ble_eq_true rfl) (Nat.zero_le _) (Nat.zero_le _) rfl ?_
  refine am_i2l (am_dec tmL_film 7 rfl) ?_
  refine am_last2 (n := 1) (i := 0) (D2 := am_wL D1 2637 0 v.toInt64) hE (am_dec tmL_film 8 rfl) shq_2637 (k_pl (k := 0) _ (by decide) (by decide)) ?_
  refine am_goto (tgt := 23) (am_dec tmL_film 9 rfl) (by decide) ?_
  refine am_iconst (v := (0 : Int32)) (am_dec tmL_film 16 rfl) (by decide) ?_
  exact am_iret (am_dec tmL_film 17 rfl) rfl (Nat.zero_le _) (Nat.zero_le _)
set_option maxRecDepth 100000 in
set_option maxHeartbeats 4000000 in
theorem xw_film_1 {E : am_E} (hE : am_EH E) {p1 p2 p3 : Int32} {D D1 : am_D} (hf : f_X11_film p1 p2 p3 D = some (.inl ("java/util/NoSuchElementException", D1))) : am_C E mL_film 3 1 6 [.ref 16, .int p1, .int p2, .int p3, .ref 2637] am_G0 D (.inl (some (.int 1))) am_G0 D1 := by
  refine am_C_of (by decide +kernel) (Nat.le_of_ble_eq_true rfl) ?_
  change am_S E mL_film 3 1 6 (.inl (some (.int 1))) am_G0 D1 0 0 0 [(0, .ref 16), (1, .int p1), (2, .int p2), (3, .int p3), (4, .ref 2637)] [] am_G0 D
  refine am_aload (am_dec tmL_film 0 rfl) rfl ?_
  refine am_iconst (v := (0 : Int32)) (am_dec tmL_film 1 rfl) (by decide) ?_
  refine am_aload_n (am_dec tmL_film 2 rfl) rfl rfl ?_
  refine am_iload_n (am_dec tmL_film 3 rfl) rfl rfl ?_
  refine am_iload_n (am_dec tmL_film 4 rfl) rfl rfl ?_
  refine am_iload_n (am_dec tmL_film 5 rfl) rfl rfl ?_
  refine am_callV_catch (As := [.int p1, .int p2, .int p3]) (st := [.int 0, .ref 2637]) (pre := []) (suf := [(0, 12, 19, 13)]) (x := (0, 12, 15, 21)) (i := 5) (np := 17) hE (am_dec tmL_film 6 rfl) ok_X11_film rfl lmL_139 in_X11_film se_X11_film sh_16 cf11 (t_X11_film hE hf) rfl (by decide) (Nat.le_of_ble_eq_true rfl) (Nat.le_refl _) (Nat.le_refl _) rfl rfl (fun z hz => nomatch hz) (by decide) (by decide) lcL_NSE lcs_NSE (Or.inr ⟨(am_dec tmL_film 10 rfl), rfl⟩) (by decide) ?_
  refine am_iconst (v := (1 : Int32)) (am_dec tmL_film 11 rfl) (by decide) ?_
  exact am_iret (am_dec tmL_film 12 rfl) rfl (Nat.le_refl _) (Nat.le_refl _)
set_option maxRecDepth 100000 in
set_option maxHeartbeats 4000000 in
theorem xw_film_2 {E : am_E} (hE : am_EH E) {p1 p2 p3 : Int32} {D D1 : am_D} (hf : f_X11_film p1 p2 p3 D = some (.inl ("java/lang/IllegalArgumentException", D1))) : am_C E mL_film 3 1 6 [.ref 16, .int p1, .int p2, .int p3, .ref 2637] am_G0 D (.inl (some (.int 2))) am_G0 D1 := by
  refine am_C_of (by decide +kernel) (Nat.le_of_ble_eq_true rfl) ?_
  change am_S E mL_film 3 1 6 (.inl (some (.int 2))) am_G0 D1 0 0 0 [(0, .ref 16), (1, .int p1), (2, .int p2), (3, .int p3), (4, .ref 2637)] [] am_G0 D
  refine am_aload (am_dec tmL_film 0 rfl) rfl ?_
  refine am_iconst (v := (0 : Int32)) (am_dec tmL_film 1 rfl) (by decide) ?_
  refine am_aload_n (am_dec tmL_film 2 rfl) rfl rfl ?_
  refine am_iload_n (am_dec tmL_film 3 rfl) rfl rfl ?_
  refine am_iload_n (am_dec tmL_film 4 rfl) rfl rfl ?_
  refine am_iload_n (am_dec tmL_film 5 rfl) rfl rfl ?_
  refine am_callV_catch (As := [.int p1, .int p2, .int p3]) (st := [.int 0, .ref 2637]) (pre := [(0, 12, 15, 21)]) (suf := []) (x := (0, 12, 19, 13)) (i := 5) (np := 21) hE (am_dec tmL_film 6 rfl) ok_X11_film rfl lmL_139 in_X11_film se_X11_film sh_16 cf11 (t_X11_film hE hf) rfl (by decide) (Nat.le_of_ble_eq_true rfl) (Nat.le_refl _) (Nat.le_refl _) rfl rfl (List.forall_mem_cons.mpr ⟨⟨by decide, "java/util/NoSuchElementException", lcL_NSE, lnc_IAE_NSE⟩, (fun z hz => nomatch hz)⟩) (by decide) (by decide) lcL_IAE lcs_IAE (Or.inr ⟨(am_dec tmL_film 13 rfl), rfl⟩) (by decide) ?_
  refine am_iconst (v := (2 : Int32)) (am_dec tmL_film 14 rfl) (by decide) ?_
  exact am_iret (am_dec tmL_film 15 rfl) rfl (Nat.le_refl _) (Nat.le_refl _)
set_option maxRecDepth 100000 in
set_option maxHeartbeats 4000000 in
theorem cw_live {E : am_E} (hE : am_EH E) {p1 p2 p3 p4 p5 : Int32} {D D1 : am_D} {v : Int32} (hf : k_lf D (f_X11_live p1 p2 p3 p4 p5) = some (.inr (v, D1))) : am_C E mL_live 4 1 6 [.ref 16, .int p1, .int p2, .int p3, .int p4, .int p5, .ref 2637] am_G0 D (.inl (some (.int 0))) am_G0 (am_wL D1 2637 0 v.toInt64) := by
  refine am_C_of (by decide +kernel) (Nat.le_of_ble_eq_true rfl) ?_
  change am_S E mL_live 4 1 6 (.inl (some (.int 0))) am_G0 (am_wL D1 2637 0 v.toInt64) 0 0 0 [(0, .ref 16), (1, .int p1), (2, .int p2), (3, .int p3), (4, .int p4), (5, .int p5), (6, .ref 2637)] [] am_G0 D
  obtain ⟨h9, rfl⟩ := k_lf_r hf
  have hf := h9
  refine am_aload (am_dec tmL_live 0 rfl) rfl ?_
  refine am_iconst (v := (0 : Int32)) (am_dec tmL_live 1 rfl) (by decide) ?_
  refine am_aload_n (am_dec tmL_live 2 rfl) rfl rfl ?_
  refine am_iload_n (am_dec tmL_live 3 rfl) rfl rfl ?_
  refine am_iload_n (am_dec tmL_live 4 rfl) rfl rfl ?_
  refine am_iload_n (am_dec tmL_live 5 rfl) rfl rfl ?_
  refine am_iload (am_dec tmL_live 6 rfl) rfl ?_
  refine am_iload (am_dec tmL_live 7 rfl) rfl ?_
  refine am_callV1 (As := [.int p1, .int p2, .int p3, .int p4, .int p5]) (st := [.int 0, .ref 2637]) hE (am_dec tmL_live 8 rfl) ok_X11_live rfl lmL_142 in_X11_live se_X11_live sh_16 cf11 (c_X11_live hE hf) rfl (by decide) (Nat.le_of_ble_eq_true rfl) (Nat.zero_le _) (Nat.zero_le _) rfl ?_
  refine am_i2l (am_dec tmL_live 9 rfl) ?_
  refine am_last2 (n := 1) (i := 0) (D2 := am_wL D1 2637 0 v.toInt64) hE (am_dec tmL_live 10 rfl) shq_2637 (k_pl (k := 0) _ (by decide) (by decide)) ?_
  refine am_goto (tgt := 23) (am_dec tmL_live 11 rfl) (by decide) ?_
  refine am_iconst (v := (0 : Int32)) (am_dec tmL_live 15 rfl) (by decide) ?_
  exact am_iret (am_dec tmL_live 16 rfl) rfl (Nat.zero_le _) (Nat.zero_le _)
set_option maxRecDepth 100000 in
set_option maxHeartbeats 4000000 in
theorem xw_live_1 {E : am_E} (hE : am_EH E) {p1 p2 p3 p4 p5 : Int32} {D D1 : am_D} (hf : k_lf D (f_X11_live p1 p2 p3 p4 p5) = some (.inl ("java/lang/IllegalArgumentException", D1))) : am_C E mL_live 4 1 6 [.ref 16, .int p1, .int p2, .int p3, .int p4, .int p5, .ref 2637] am_G0 D (.inl (some (.int 1))) am_G0 D1 := by
  refine am_C_of (by decide +kernel) (Nat.le_of_ble_eq_true rfl) ?_
  change am_S E mL_live 4 1 6 (.inl (some (.int 1))) am_G0 D1 0 0 0 [(0, .ref 16), (1, .int p1), (2, .int p2), (3, .int p3), (4, .int p4), (5, .int p5), (6, .ref 2637)] [] am_G0 D
  obtain ⟨h9, rfl⟩ := k_lf_l hf
  have hf := h9
  refine am_aload (am_dec tmL_live 0 rfl) rfl ?_
  refine am_iconst (v := (0 : Int32)) (am_dec tmL_live 1 rfl) (by decide) ?_
  refine am_aload_n (am_dec tmL_live 2 rfl) rfl rfl ?_
  refine am_iload_n (am_dec tmL_live 3 rfl) rfl rfl ?_
  refine am_iload_n (am_dec tmL_live 4 rfl) rfl rfl ?_
  refine am_iload_n (am_dec tmL_live 5 rfl) rfl rfl ?_
  refine am_iload (am_dec tmL_live 6 rfl) rfl ?_
  refine am_iload (am_dec tmL_live 7 rfl) rfl ?_
  refine am_callV_catch (As := [.int p1, .int p2, .int p3, .int p4, .int p5]) (st := [.int 0, .ref 2637]) (pre := []) (suf := []) (x := (0, 16, 19, 13)) (i := 7) (np := 21) hE (am_dec tmL_live 8 rfl) ok_X11_live rfl lmL_142 in_X11_live se_X11_live sh_16 cf11 (t_X11_live hE hf) rfl (by decide) (Nat.le_of_ble_eq_true rfl) (Nat.le_refl _) (Nat.le_refl _) rfl rfl (fun z hz => nomatch hz) (by decide) (by decide) lcL_IAE lcs_IAE (Or.inr ⟨(am_dec tmL_live 12 rfl), rfl⟩) (by decide) ?_
  refine am_iconst (v := (1 : Int32)) (am_dec tmL_live 13 rfl) (by decide) ?_
  exact am_iret (am_dec tmL_live 14 rfl) rfl (Nat.le_refl _) (Nat.le_refl _)
set_option maxRecDepth 100000 in
set_option maxHeartbeats 4000000 in
theorem cw_lag {E : am_E} (hE : am_EH E) {p1 p2 p3 p4 : Int32} {D D1 : am_D} {v : Int32} (hf : k_lf D (f_X11_lag p1 p2 p3 p4) = some (.inr (v, D1))) : am_C E mL_lag 4 1 6 [.ref 16, .int p1, .int p2, .int p3, .int p4, .ref 2637] am_G0 D (.inl (some (.int 0))) am_G0 (am_wL D1 2637 0 v.toInt64) := by
  refine am_C_of (by decide +kernel) (Nat.le_of_ble_eq_true rfl) ?_
  change am_S E mL_lag 4 1 6 (.inl (some (.int 0))) am_G0 (am_wL D1 2637 0 v.toInt64) 0 0 0 [(0, .ref 16), (1, .int p1), (2, .int p2), (3, .int p3), (4, .int p4), (5, .ref 2637)] [] am_G0 D
  obtain ⟨h9, rfl⟩ := k_lf_r hf
  have hf := h9
  refine am_aload (am_dec tmL_lag 0 rfl) rfl ?_
  refine am_iconst (v := (0 : Int32)) (am_dec tmL_lag 1 rfl) (by decide) ?_
  refine am_aload_n (am_dec tmL_lag 2 rfl) rfl rfl ?_
  refine am_iload_n (am_dec tmL_lag 3 rfl) rfl rfl ?_
  refine am_iload_n (am_dec tmL_lag 4 rfl) rfl rfl ?_
  refine am_iload_n (am_dec tmL_lag 5 rfl) rfl rfl ?_
  refine am_iload (am_dec tmL_lag 6 rfl) rfl ?_
  refine am_callV1 (As := [.int p1, .int p2, .int p3, .int p4]) (st := [.int 0, .ref 2637]) hE (am_dec tmL_lag 7 rfl) ok_X11_lag rfl lmL_146 in_X11_lag se_X11_lag sh_16 cf11 (c_X11_lag hE hf) rfl (by decide) (Nat.le_of_ble_eq_true rfl) (Nat.zero_le _) (Nat.zero_le _) rfl ?_
  refine am_i2l (am_dec tmL_lag 8 rfl) ?_
  refine am_last2 (n := 1) (i := 0) (D2 := am_wL D1 2637 0 v.toInt64) hE (am_dec tmL_lag 9 rfl) shq_2637 (k_pl (k := 0) _ (by decide) (by decide)) ?_
  refine am_goto (tgt := 21) (am_dec tmL_lag 10 rfl) (by decide) ?_
  refine am_iconst (v := (0 : Int32)) (am_dec tmL_lag 14 rfl) (by decide) ?_
  exact am_iret (am_dec tmL_lag 15 rfl) rfl (Nat.zero_le _) (Nat.zero_le _)
set_option maxRecDepth 100000 in
set_option maxHeartbeats 4000000 in
theorem xw_lag_1 {E : am_E} (hE : am_EH E) {p1 p2 p3 p4 : Int32} {D D1 : am_D} (hf : k_lf D (f_X11_lag p1 p2 p3 p4) = some (.inl ("java/lang/IllegalArgumentException", D1))) : am_C E mL_lag 4 1 6 [.ref 16, .int p1, .int p2, .int p3, .int p4, .ref 2637] am_G0 D (.inl (some (.int 1))) am_G0 D1 := by
  refine am_C_of (by decide +kernel) (Nat.le_of_ble_eq_true rfl) ?_
  change am_S E mL_lag 4 1 6 (.inl (some (.int 1))) am_G0 D1 0 0 0 [(0, .ref 16), (1, .int p1), (2, .int p2), (3, .int p3), (4, .int p4), (5, .ref 2637)] [] am_G0 D
  obtain ⟨h9, rfl⟩ := k_lf_l hf
  have hf := h9
  refine am_aload (am_dec tmL_lag 0 rfl) rfl ?_
  refine am_iconst (v := (0 : Int32)) (am_dec tmL_lag 1 rfl) (by decide) ?_
  refine am_aload_n (am_dec tmL_lag 2 rfl) rfl rfl ?_
  refine am_iload_n (am_dec tmL_lag 3 rfl) rfl rfl ?_
  refine am_iload_n (am_dec tmL_lag 4 rfl) rfl rfl ?_
  refine am_iload_n (am_dec tmL_lag 5 rfl) rfl rfl ?_
  refine am_iload (am_dec tmL_lag 6 rfl) rfl ?_
  refine am_callV_catch (As := [.int p1, .int p2, .int p3, .int p4]) (st := [.int 0, .ref 2637]) (pre := []) (suf := []) (x := (0, 14, 17, 13)) (i := 6) (np := 19) hE (am_dec tmL_lag 7 rfl) ok_X11_lag rfl lmL_146 in_X11_lag se_X11_lag sh_16 cf11 (t_X11_lag hE hf) rfl (by decide) (Nat.le_of_ble_eq_true rfl) (Nat.le_refl _) (Nat.le_refl _) rfl rfl (fun z hz => nomatch hz) (by decide) (by decide) lcL_IAE lcs_IAE (Or.inr ⟨(am_dec tmL_lag 11 rfl), rfl⟩) (by decide) ?_
  refine am_iconst (v := (1 : Int32)) (am_dec tmL_lag 12 rfl) (by decide) ?_
  exact am_iret (am_dec tmL_lag 13 rfl) rfl (Nat.le_refl _) (Nat.le_refl _)
set_option maxRecDepth 100000 in
set_option maxHeartbeats 4000000 in
theorem cw_lags {E : am_E} (hE : am_EH E) {p1 p2 p3 p4 p5 : Int32} {D D1 : am_D} {v : Int32} (hf : k_lf D (f_X11_lags p1 p2 p3 p4 p5) = some (.inr (v, D1))) : am_C E mL_lags 4 1 6 [.ref 16, .int p1, .int p2, .int p3, .int p4, .int p5, .ref 2637] am_G0 D (.inl (some (.int 0))) am_G0 (am_wL D1 2637 0 v.toInt64) := by
  refine am_C_of (by decide +kernel) (Nat.le_of_ble_eq_true rfl) ?_
  change am_S E mL_lags 4 1 6 (.inl (some (.int 0))) am_G0 (am_wL D1 2637 0 v.toInt64) 0 0 0 [(0, .ref 16), (1, .int p1), (2, .int p2), (3, .int p3), (4, .int p4), (5, .int p5), (6, .ref 2637)] [] am_G0 D
  obtain ⟨h9, rfl⟩ := k_lf_r hf
  have hf := h9
  refine am_aload (am_dec tmL_lags 0 rfl) rfl ?_
  refine am_iconst (v := (0 : Int32)) (am_dec tmL_lags 1 rfl) (by decide) ?_
  refine am_aload_n (am_dec tmL_lags 2 rfl) rfl rfl ?_
  refine am_iload_n (am_dec tmL_lags 3 rfl) rfl rfl ?_
  refine am_iload_n (am_dec tmL_lags 4 rfl) rfl rfl ?_
  refine am_iload_n (am_dec tmL_lags 5 rfl) rfl rfl ?_
  refine am_iload (am_dec tmL_lags 6 rfl) rfl ?_
  refine am_iload (am_dec tmL_lags 7 rfl) rfl ?_
  refine am_callV1 (As := [.int p1, .int p2, .int p3, .int p4, .int p5]) (st := [.int 0, .ref 2637]) hE (am_dec tmL_lags 8 rfl) ok_X11_lags rfl lmL_149 in_X11_lags se_X11_lags sh_16 cf11 (c_X11_lags hE hf) rfl (by decide) (Nat.le_of_ble_eq_true rfl) (Nat.zero_le _) (Nat.zero_le _) rfl ?_
  refine am_i2l (am_dec tmL_lags 9 rfl) ?_
  refine am_last2 (n := 1) (i := 0) (D2 := am_wL D1 2637 0 v.toInt64) hE (am_dec tmL_lags 10 rfl) shq_2637 (k_pl (k := 0) _ (by decide) (by decide)) ?_
  refine am_goto (tgt := 23) (am_dec tmL_lags 11 rfl) (by decide) ?_
  refine am_iconst (v := (0 : Int32)) (am_dec tmL_lags 15 rfl) (by decide) ?_
  exact am_iret (am_dec tmL_lags 16 rfl) rfl (Nat.zero_le _) (Nat.zero_le _)
set_option maxRecDepth 100000 in
set_option maxHeartbeats 4000000 in
theorem xw_lags_1 {E : am_E} (hE : am_EH E) {p1 p2 p3 p4 p5 : Int32} {D D1 : am_D} (hf : k_lf D (f_X11_lags p1 p2 p3 p4 p5) = some (.inl ("java/lang/IllegalArgumentException", D1))) : am_C E mL_lags 4 1 6 [.ref 16, .int p1, .int p2, .int p3, .int p4, .int p5, .ref 2637] am_G0 D (.inl (some (.int 1))) am_G0 D1 := by
  refine am_C_of (by decide +kernel) (Nat.le_of_ble_eq_true rfl) ?_
  change am_S E mL_lags 4 1 6 (.inl (some (.int 1))) am_G0 D1 0 0 0 [(0, .ref 16), (1, .int p1), (2, .int p2), (3, .int p3), (4, .int p4), (5, .int p5), (6, .ref 2637)] [] am_G0 D
  obtain ⟨h9, rfl⟩ := k_lf_l hf
  have hf := h9
  refine am_aload (am_dec tmL_lags 0 rfl) rfl ?_
  refine am_iconst (v := (0 : Int32)) (am_dec tmL_lags 1 rfl) (by decide) ?_
  refine am_aload_n (am_dec tmL_lags 2 rfl) rfl rfl ?_
  refine am_iload_n (am_dec tmL_lags 3 rfl) rfl rfl ?_
  refine am_iload_n (am_dec tmL_lags 4 rfl) rfl rfl ?_
  refine am_iload_n (am_dec tmL_lags 5 rfl) rfl rfl ?_
  refine am_iload (am_dec tmL_lags 6 rfl) rfl ?_
  refine am_iload (am_dec tmL_lags 7 rfl) rfl ?_
  refine am_callV_catch (As := [.int p1, .int p2, .int p3, .int p4, .int p5]) (st := [.int 0, .ref 2637]) (pre := []) (suf := []) (x := (0, 16, 19, 13)) (i := 7) (np := 21) hE (am_dec tmL_lags 8 rfl) ok_X11_lags rfl lmL_149 in_X11_lags se_X11_lags sh_16 cf11 (t_X11_lags hE hf) rfl (by decide) (Nat.le_of_ble_eq_true rfl) (Nat.le_refl _) (Nat.le_refl _) rfl rfl (fun z hz => nomatch hz) (by decide) (by decide) lcL_IAE lcs_IAE (Or.inr ⟨(am_dec tmL_lags 12 rfl), rfl⟩) (by decide) ?_
  refine am_iconst (v := (1 : Int32)) (am_dec tmL_lags 13 rfl) (by decide) ?_
  exact am_iret (am_dec tmL_lags 14 rfl) rfl (Nat.le_refl _) (Nat.le_refl _)
set_option maxRecDepth 100000 in
set_option maxHeartbeats 4000000 in
theorem cw_lost {E : am_E} (hE : am_EH E) {p1 p2 p3 : Int32} {D D1 : am_D} {v : Int32} (hf : f_X11_lost p1 p2 p3 D = some (.inr (v, D1))) : am_C E mL_lost 7 1 6 [.ref 16, .int p1, .int p2, .int p3, .ref 2637] am_G0 D (.inl (some (.int 0))) am_G0 (am_wL D1 2637 0 v.toInt64) := by
  refine am_C_of (by decide +kernel) (Nat.le_of_ble_eq_true rfl) ?_
  change am_S E mL_lost 7 1 6 (.inl (some (.int 0))) am_G0 (am_wL D1 2637 0 v.toInt64) 0 0 0 [(0, .ref 16), (1, .int p1), (2, .int p2), (3, .int p3), (4, .ref 2637)] [] am_G0 D
  refine am_aload (am_dec tmL_lost 0 rfl) rfl ?_
  refine am_iconst (v := (0 : Int32)) (am_dec tmL_lost 1 rfl) (by decide) ?_
  refine am_aload_n (am_dec tmL_lost 2 rfl) rfl rfl ?_
  refine am_iload_n (am_dec tmL_lost 3 rfl) rfl rfl ?_
  refine am_iload_n (am_dec tmL_lost 4 rfl) rfl rfl ?_
  refine am_iload_n (am_dec tmL_lost 5 rfl) rfl rfl ?_
  refine am_callV1 (As := [.int p1, .int p2, .int p3]) (st := [.int 0, .ref 2637]) hE (am_dec tmL_lost 6 rfl) ok_X11_lost rfl lmL_152 in_X11_lost se_X11_lost sh_16 cf11 (c_X11_lost hE hf) rfl (by decide) (Nat.le_of_ble_eq_true rfl) (Nat.zero_le _) (Nat.zero_le _) rfl ?_
  refine am_i2l (am_dec tmL_lost 7 rfl) ?_
  refine am_last2 (n := 1) (i := 0) (D2 := am_wL D1 2637 0 v.toInt64) hE (am_dec tmL_lost 8 rfl) shq_2637 (k_pl (k := 0) _ (by decide) (by decide)) ?_
  refine am_goto (tgt := 27) (am_dec tmL_lost 9 rfl) (by decide) ?_
  refine am_iconst (v := (0 : Int32)) (am_dec tmL_lost 19 rfl) (by decide) ?_
  exact am_iret (am_dec tmL_lost 20 rfl) rfl (Nat.zero_le _) (Nat.zero_le _)
set_option maxRecDepth 100000 in
set_option maxHeartbeats 4000000 in
theorem xw_lost_1 {E : am_E} (hE : am_EH E) {p1 p2 p3 : Int32} {D D1 : am_D} (hf : f_X11_lost p1 p2 p3 D = some (.inl ("java/util/NoSuchElementException", D1))) : am_C E mL_lost 7 1 6 [.ref 16, .int p1, .int p2, .int p3, .ref 2637] am_G0 D (.inl (some (.int 1))) am_G0 D1 := by
  refine am_C_of (by decide +kernel) (Nat.le_of_ble_eq_true rfl) ?_
  change am_S E mL_lost 7 1 6 (.inl (some (.int 1))) am_G0 D1 0 0 0 [(0, .ref 16), (1, .int p1), (2, .int p2), (3, .int p3), (4, .ref 2637)] [] am_G0 D
  refine am_aload (am_dec tmL_lost 0 rfl) rfl ?_
  refine am_iconst (v := (0 : Int32)) (am_dec tmL_lost 1 rfl) (by decide) ?_
  refine am_aload_n (am_dec tmL_lost 2 rfl) rfl rfl ?_
  refine am_iload_n (am_dec tmL_lost 3 rfl) rfl rfl ?_
  refine am_iload_n (am_dec tmL_lost 4 rfl) rfl rfl ?_
  refine am_iload_n (am_dec tmL_lost 5 rfl) rfl rfl ?_
  refine am_callV_catch (As := [.int p1, .int p2, .int p3]) (st := [.int 0, .ref 2637]) (pre := []) (suf := [(0, 12, 19, 30), (0, 12, 23, 45)]) (x := (0, 12, 15, 21)) (i := 5) (np := 17) hE (am_dec tmL_lost 6 rfl) ok_X11_lost rfl lmL_152 in_X11_lost se_X11_lost sh_16 cf11 (t_X11_lost hE hf) rfl (by decide) (Nat.le_of_ble_eq_true rfl) (Nat.le_refl _) (Nat.le_refl _) rfl rfl (fun z hz => nomatch hz) (by decide) (by decide) lcL_NSE lcs_NSE (Or.inr ⟨(am_dec tmL_lost 10 rfl), rfl⟩) (by decide) ?_
  refine am_iconst (v := (1 : Int32)) (am_dec tmL_lost 11 rfl) (by decide) ?_
  exact am_iret (am_dec tmL_lost 12 rfl) rfl (Nat.le_refl _) (Nat.le_refl _)
set_option maxRecDepth 100000 in
set_option maxHeartbeats 4000000 in
theorem xw_lost_2 {E : am_E} (hE : am_EH E) {p1 p2 p3 : Int32} {D D1 : am_D} (hf : f_X11_lost p1 p2 p3 D = some (.inl ("java/lang/IndexOutOfBoundsException", D1))) : am_C E mL_lost 7 1 6 [.ref 16, .int p1, .int p2, .int p3, .ref 2637] am_G0 D (.inl (some (.int 2))) am_G0 D1 := by
  refine am_C_of (by decide +kernel) (Nat.le_of_ble_eq_true rfl) ?_
  change am_S E mL_lost 7 1 6 (.inl (some (.int 2))) am_G0 D1 0 0 0 [(0, .ref 16), (1, .int p1), (2, .int p2), (3, .int p3), (4, .ref 2637)] [] am_G0 D
  refine am_aload (am_dec tmL_lost 0 rfl) rfl ?_
  refine am_iconst (v := (0 : Int32)) (am_dec tmL_lost 1 rfl) (by decide) ?_
  refine am_aload_n (am_dec tmL_lost 2 rfl) rfl rfl ?_
  refine am_iload_n (am_dec tmL_lost 3 rfl) rfl rfl ?_
  refine am_iload_n (am_dec tmL_lost 4 rfl) rfl rfl ?_
  refine am_iload_n (am_dec tmL_lost 5 rfl) rfl rfl ?_
  refine am_callV_catch (As := [.int p1, .int p2, .int p3]) (st := [.int 0, .ref 2637]) (pre := [(0, 12, 15, 21)]) (suf := [(0, 12, 23, 45)]) (x := (0, 12, 19, 30)) (i := 5) (np := 21) hE (am_dec tmL_lost 6 rfl) ok_X11_lost rfl lmL_152 in_X11_lost se_X11_lost sh_16 cf11 (t_X11_lost hE hf) rfl (by decide) (Nat.le_of_ble_eq_true rfl) (Nat.le_refl _) (Nat.le_refl _) rfl rfl (List.forall_mem_cons.mpr ⟨⟨by decide, "java/util/NoSuchElementException", lcL_NSE, lnc_IOB_NSE⟩, (fun z hz => nomatch hz)⟩) (by decide) (by decide) lcL_IOB lcs_IOB (Or.inr ⟨(am_dec tmL_lost 13 rfl), rfl⟩) (by decide) ?_
  refine am_iconst (v := (2 : Int32)) (am_dec tmL_lost 14 rfl) (by decide) ?_
  exact am_iret (am_dec tmL_lost 15 rfl) rfl (Nat.le_refl _) (Nat.le_refl _)
set_option maxRecDepth 100000 in
set_option maxHeartbeats 4000000 in
theorem xw_lost_3 {E : am_E} (hE : am_EH E) {p1 p2 p3 : Int32} {D D1 : am_D} (hf : f_X11_lost p1 p2 p3 D = some (.inl ("java/lang/IllegalStateException", D1))) : am_C E mL_lost 7 1 6 [.ref 16, .int p1, .int p2, .int p3, .ref 2637] am_G0 D (.inl (some (.int 3))) am_G0 D1 := by
  refine am_C_of (by decide +kernel) (Nat.le_of_ble_eq_true rfl) ?_
  change am_S E mL_lost 7 1 6 (.inl (some (.int 3))) am_G0 D1 0 0 0 [(0, .ref 16), (1, .int p1), (2, .int p2), (3, .int p3), (4, .ref 2637)] [] am_G0 D
  refine am_aload (am_dec tmL_lost 0 rfl) rfl ?_
  refine am_iconst (v := (0 : Int32)) (am_dec tmL_lost 1 rfl) (by decide) ?_
  refine am_aload_n (am_dec tmL_lost 2 rfl) rfl rfl ?_
  refine am_iload_n (am_dec tmL_lost 3 rfl) rfl rfl ?_
  refine am_iload_n (am_dec tmL_lost 4 rfl) rfl rfl ?_
  refine am_iload_n (am_dec tmL_lost 5 rfl) rfl rfl ?_
  refine am_callV_catch (As := [.int p1, .int p2, .int p3]) (st := [.int 0, .ref 2637]) (pre := [(0, 12, 15, 21), (0, 12, 19, 30)]) (suf := []) (x := (0, 12, 23, 45)) (i := 5) (np := 25) hE (am_dec tmL_lost 6 rfl) ok_X11_lost rfl lmL_152 in_X11_lost se_X11_lost sh_16 cf11 (t_X11_lost hE hf) rfl (by decide) (Nat.le_of_ble_eq_true rfl) (Nat.le_refl _) (Nat.le_refl _) rfl rfl (List.forall_mem_cons.mpr ⟨⟨by decide, "java/util/NoSuchElementException", lcL_NSE, lnc_ISE_NSE⟩, (List.forall_mem_cons.mpr ⟨⟨by decide, "java/lang/IndexOutOfBoundsException", lcL_IOB, lnc_ISE_IOB⟩, (fun z hz => nomatch hz)⟩)⟩) (by decide) (by decide) lcL_ISE lcs_ISE (Or.inr ⟨(am_dec tmL_lost 16 rfl), rfl⟩) (by decide) ?_
  refine am_iconst (v := (3 : Int32)) (am_dec tmL_lost 17 rfl) (by decide) ?_
  exact am_iret (am_dec tmL_lost 18 rfl) rfl (Nat.le_refl _) (Nat.le_refl _)
