theorem tb_161 : Cond.methodLink RX5 3 objectInit ∈ zTB := zmem (i := 161) (by decide +kernel) rfl
theorem tb_141 : Cond.instanceMethod objectInit ∈ zTB := zmem (i := 141) (by decide +kernel) rfl
set_option maxRecDepth 20000 in
theorem tb_142 : Cond.code objectInit ⟨#[0xb1]⟩ 1 none ∈ zTB := zmem (i := 142) rfl rfl
theorem tb_178 : Cond.arrayClass .int ∈ zTB := zmem (i := 178) (by decide +kernel) rfl
theorem ff_X5_9 : zFF RX5 9 5 0 (.array .int) := ⟨TX5, 2, tyX5, rfl, uw_5, by decide, rfl, tb_162, tyX5_ok, nmX5, rfl, by decide +kernel⟩
theorem tb_155 : Cond.methodLink RX7 3 objectInit ∈ zTB := zmem (i := 155) (by decide +kernel) rfl
theorem tb_156 : Cond.classLink RX7 9 RX5 ∈ zTB := zmem (i := 156) (by decide +kernel) rfl
theorem tb_157 : Cond.instantiable RX5 2 ∈ zTB := zmem (i := 157) (by decide +kernel) rfl
theorem nw_X7_9 : zNW RX7 9 5 2 := ⟨RX5, TX5, tyX5, rfl, uw_5, tyX5_ok, tb_156, tb_157, tb_117, by decide⟩
set_option maxRecDepth 20000 in
theorem tb_160 : Cond.code yX5_init cX5_init 1 none ∈ zTB := zmem (i := 160) rfl rfl
theorem tb_159 : Cond.instanceMethod yX5_init ∈ zTB := zmem (i := 159) (by decide +kernel) rfl
theorem ci_X7_11 : zCI RX7 11 yX5_init cX5_init 1 := ⟨tb_160, tb_117, Or.inr (by decide), ⟨by decide, by decide, by decide +kernel⟩, tb_159, rfl, by decide⟩
theorem ff_X7_12 : zFF RX7 12 7 3 (.object "TraitLines$Row") := ⟨TX7, 9, tyX7, rfl, uw_7, by decide, rfl, tb_187, tyX7_ok, nmX7, rfl, by decide +kernel⟩
theorem ff_X7_18 : zFF RX7 18 7 4 (.object "TraitLines$Row") := ⟨TX7, 9, tyX7, rfl, uw_7, by decide, rfl, tb_192, tyX7_ok, nmX7, rfl, by decide +kernel⟩
theorem ff_X7_21 : zFF RX7 21 7 5 (.array .int) := ⟨TX7, 9, tyX7, rfl, uw_7, by decide, rfl, tb_196, tyX7_ok, nmX7, rfl, by decide +kernel⟩
theorem ff_X7_25 : zFF RX7 25 7 6 (.array .int) := ⟨TX7, 9, tyX7, rfl, uw_7, by decide, rfl, tb_198, tyX7_ok, nmX7, rfl, by decide +kernel⟩
theorem ff_X7_28 : zFF RX7 28 7 7 (.array .int) := ⟨TX7, 9, tyX7, rfl, uw_7, by decide, rfl, tb_201, tyX7_ok, nmX7, rfl, by decide +kernel⟩
theorem ff_X7_31 : zFF RX7 31 7 8 (.array .int) := ⟨TX7, 9, tyX7, rfl, uw_7, by decide, rfl, tb_202, tyX7_ok, nmX7, rfl, by decide +kernel⟩
theorem tb_148 : Cond.methodLink RX8 3 objectInit ∈ zTB := zmem (i := 148) (by decide +kernel) rfl
theorem tb_149 : Cond.classLink RX8 9 RX7 ∈ zTB := zmem (i := 149) (by decide +kernel) rfl
theorem ff_X8_11 : zFF RX8 11 8 0 (.array (.object "TraitLines$Unit")) := ⟨TX8, 2, tyX8, rfl, uw_8, by decide, rfl, tb_222, tyX8_ok, nmX8, rfl, by decide +kernel⟩
theorem tb_151 : Cond.instantiable RX7 9 ∈ zTB := zmem (i := 151) (by decide +kernel) rfl
theorem nw_X8_9 : zNW RX8 9 7 9 := ⟨RX7, TX7, tyX7, rfl, uw_7, tyX7_ok, tb_149, tb_151, tb_116, by decide⟩
set_option maxRecDepth 20000 in
theorem tb_154 : Cond.code yX7_init cX7_init 1 none ∈ zTB := zmem (i := 154) rfl rfl
theorem tb_153 : Cond.instanceMethod yX7_init ∈ zTB := zmem (i := 153) (by decide +kernel) rfl
theorem ci_X8_17 : zCI RX8 17 yX7_init cX7_init 1 := ⟨tb_154, tb_116, Or.inr (by decide), ⟨by decide, by decide, by decide +kernel⟩, tb_153, rfl, by decide⟩
theorem tb_278 : Cond.methodLink RX1 3 objectInit ∈ zTB := zmem (i := 278) (by decide +kernel) rfl
theorem tb_279 : Cond.classLink RX1 9 RX7 ∈ zTB := zmem (i := 279) (by decide +kernel) rfl
theorem ff_X1_11 : zFF RX1 11 1 0 (.array (.object "TraitLines$Unit")) := ⟨TX1, 4, tyX1, rfl, uw_1, by decide, rfl, tb_281, tyX1_ok, nmX1, rfl, by decide +kernel⟩
theorem ff_X1_17 : zFF RX1 17 1 1 (.array .int) := ⟨TX1, 4, tyX1, rfl, uw_1, by decide, rfl, tb_282, tyX1_ok, nmX1, rfl, by decide +kernel⟩
theorem nw_X1_9 : zNW RX1 9 7 9 := ⟨RX7, TX7, tyX7, rfl, uw_7, tyX7_ok, tb_279, tb_151, tb_116, by decide⟩
theorem ci_X1_21 : zCI RX1 21 yX7_init cX7_init 1 := ⟨tb_154, tb_116, Or.inr (by decide), ⟨by decide, by decide, by decide +kernel⟩, tb_153, rfl, by decide⟩
theorem tb_300 : Cond.methodLink RX0 3 objectInit ∈ zTB := zmem (i := 300) (by decide +kernel) rfl
theorem ff_X0_9 : zFF RX0 9 0 0 (.array .int) := ⟨TX0, 3, tyX0, rfl, uw_0, by decide, rfl, tb_301, tyX0_ok, nmX0, rfl, by decide +kernel⟩
theorem ff_X0_15 : zFF RX0 15 0 1 (.array .int) := ⟨TX0, 3, tyX0, rfl, uw_0, by decide, rfl, tb_302, tyX0_ok, nmX0, rfl, by decide +kernel⟩
theorem ff_X0_18 : zFF RX0 18 0 2 (.array .int) := ⟨TX0, 3, tyX0, rfl, uw_0, by decide, rfl, tb_303, tyX0_ok, nmX0, rfl, by decide +kernel⟩
theorem tb_316 : Cond.methodLink RX2 3 objectInit ∈ zTB := zmem (i := 316) (by decide +kernel) rfl
theorem tb_317 : Cond.classLink RX2 9 "[[I" ∈ zTB := zmem (i := 317) (by decide +kernel) rfl
theorem ff_X2_11 : zFF RX2 11 2 0 (.array (.array .int)) := ⟨TX2, 10, tyX2, rfl, uw_2, by decide, rfl, tb_319, tyX2_ok, nmX2, rfl, by decide +kernel⟩
theorem ff_X2_16 : zFF RX2 16 2 1 (.array .int) := ⟨TX2, 10, tyX2, rfl, uw_2, by decide, rfl, tb_322, tyX2_ok, nmX2, rfl, by decide +kernel⟩
theorem ff_X2_20 : zFF RX2 20 2 2 (.array (.array .int)) := ⟨TX2, 10, tyX2, rfl, uw_2, by decide, rfl, tb_325, tyX2_ok, nmX2, rfl, by decide +kernel⟩
theorem ff_X2_23 : zFF RX2 23 2 3 (.array .int) := ⟨TX2, 10, tyX2, rfl, uw_2, by decide, rfl, tb_327, tyX2_ok, nmX2, rfl, by decide +kernel⟩
theorem ff_X2_26 : zFF RX2 26 2 4 (.array .int) := ⟨TX2, 10, tyX2, rfl, uw_2, by decide, rfl, tb_329, tyX2_ok, nmX2, rfl, by decide +kernel⟩
theorem ff_X2_29 : zFF RX2 29 2 5 (.array (.array .int)) := ⟨TX2, 10, tyX2, rfl, uw_2, by decide, rfl, tb_331, tyX2_ok, nmX2, rfl, by decide +kernel⟩
theorem ff_X2_32 : zFF RX2 32 2 6 (.array .int) := ⟨TX2, 10, tyX2, rfl, uw_2, by decide, rfl, tb_332, tyX2_ok, nmX2, rfl, by decide +kernel⟩
theorem ff_X2_35 : zFF RX2 35 2 7 (.array .int) := ⟨TX2, 10, tyX2, rfl, uw_2, by decide, rfl, tb_333, tyX2_ok, nmX2, rfl, by decide +kernel⟩
theorem ff_X2_38 : zFF RX2 38 2 8 (.array .int) := ⟨TX2, 10, tyX2, rfl, uw_2, by decide, rfl, tb_334, tyX2_ok, nmX2, rfl, by decide +kernel⟩
theorem tb_362 : Cond.methodLink RX3 3 objectInit ∈ zTB := zmem (i := 362) (by decide +kernel) rfl
theorem ff_X3_9 : zFF RX3 9 3 0 (.array .int) := ⟨TX3, 3, tyX3, rfl, uw_3, by decide, rfl, tb_363, tyX3_ok, nmX3, rfl, by decide +kernel⟩
theorem ff_X3_15 : zFF RX3 15 3 1 (.array .int) := ⟨TX3, 3, tyX3, rfl, uw_3, by decide, rfl, tb_364, tyX3_ok, nmX3, rfl, by decide +kernel⟩
theorem tb_247 : Cond.methodLink RX4 3 objectInit ∈ zTB := zmem (i := 247) (by decide +kernel) rfl
theorem tb_378 : Cond.methodLink RX6 3 objectInit ∈ zTB := zmem (i := 378) (by decide +kernel) rfl
theorem tb_140 : Cond.methodLink RX9 1 objectInit ∈ zTB := zmem (i := 140) (by decide +kernel) rfl
theorem tb_177 : Cond.arrayClass .byte ∈ zTB := zmem (i := 177) (by decide +kernel) rfl
theorem ff_X9_9 : zFF RX9 9 9 0 (.array .byte) := ⟨TX9, 13, tyX9, rfl, uw_9, by decide, rfl, tb_420, tyX9_ok, nmX9, rfl, by decide +kernel⟩
theorem tb_143 : Cond.classLink RX9 13 RX8 ∈ zTB := zmem (i := 143) (by decide +kernel) rfl
theorem tb_144 : Cond.instantiable RX8 2 ∈ zTB := zmem (i := 144) (by decide +kernel) rfl
theorem nw_X9_13 : zNW RX9 13 8 2 := ⟨RX8, TX8, tyX8, rfl, uw_8, tyX8_ok, tb_143, tb_144, tb_115, by decide⟩
set_option maxRecDepth 20000 in
theorem tb_147 : Cond.code yX8_init cX8_init 2 none ∈ zTB := zmem (i := 147) rfl rfl
theorem tb_146 : Cond.instanceMethod yX8_init ∈ zTB := zmem (i := 146) (by decide +kernel) rfl
theorem tb_145 : Cond.methodLink RX9 15 yX8_init ∈ zTB := zmem (i := 145) (by decide +kernel) rfl
theorem ci_X9_15 : zCI RX9 15 yX8_init cX8_init 2 := ⟨tb_147, tb_115, Or.inl tb_145, ⟨by decide, by decide, by decide +kernel⟩, tb_146, rfl, by decide⟩
theorem ff_X9_23 : zFF RX9 23 9 4 (.array (.object "TraitLines$World")) := ⟨TX9, 13, tyX9, rfl, uw_9, by decide, rfl, tb_424, tyX9_ok, nmX9, rfl, by decide +kernel⟩
theorem tb_242 : Cond.classLink RX9 27 RX4 ∈ zTB := zmem (i := 242) (by decide +kernel) rfl
theorem tb_243 : Cond.instantiable RX4 8 ∈ zTB := zmem (i := 243) (by decide +kernel) rfl
theorem nw_X9_27 : zNW RX9 27 4 8 := ⟨RX4, TX4, tyX4, rfl, uw_4, tyX4_ok, tb_242, tb_243, tb_118, by decide⟩
set_option maxRecDepth 20000 in
theorem tb_246 : Cond.code yX4_init cX4_init 1 none ∈ zTB := zmem (i := 246) rfl rfl
theorem tb_245 : Cond.instanceMethod yX4_init ∈ zTB := zmem (i := 245) (by decide +kernel) rfl
theorem ci_X9_29 : zCI RX9 29 yX4_init cX4_init 1 := ⟨tb_246, tb_118, Or.inr (by decide), ⟨by decide, by decide, by decide +kernel⟩, tb_245, rfl, by decide⟩
theorem ff_X9_30 : zFF RX9 30 9 6 (.object "TraitLines$Reader") := ⟨TX9, 13, tyX9, rfl, uw_9, by decide, rfl, tb_426, tyX9_ok, nmX9, rfl, by decide +kernel⟩
theorem tb_273 : Cond.classLink RX9 34 RX1 ∈ zTB := zmem (i := 273) (by decide +kernel) rfl
theorem tb_274 : Cond.instantiable RX1 4 ∈ zTB := zmem (i := 274) (by decide +kernel) rfl
theorem nw_X9_34 : zNW RX9 34 1 4 := ⟨RX1, TX1, tyX1, rfl, uw_1, tyX1_ok, tb_273, tb_274, tb_119, by decide⟩
set_option maxRecDepth 20000 in
theorem tb_277 : Cond.code yX1_init cX1_init 2 none ∈ zTB := zmem (i := 277) rfl rfl
theorem tb_276 : Cond.instanceMethod yX1_init ∈ zTB := zmem (i := 276) (by decide +kernel) rfl
theorem tb_275 : Cond.methodLink RX9 36 yX1_init ∈ zTB := zmem (i := 275) (by decide +kernel) rfl
theorem ci_X9_36 : zCI RX9 36 yX1_init cX1_init 2 := ⟨tb_277, tb_119, Or.inl tb_275, ⟨by decide, by decide, by decide +kernel⟩, tb_276, rfl, by decide⟩
theorem ff_X9_37 : zFF RX9 37 9 7 (.object "TraitLines$History") := ⟨TX9, 13, tyX9, rfl, uw_9, by decide, rfl, tb_427, tyX9_ok, nmX9, rfl, by decide +kernel⟩
theorem tb_295 : Cond.classLink RX9 41 RX0 ∈ zTB := zmem (i := 295) (by decide +kernel) rfl
theorem tb_296 : Cond.instantiable RX0 3 ∈ zTB := zmem (i := 296) (by decide +kernel) rfl
theorem nw_X9_41 : zNW RX9 41 0 3 := ⟨RX0, TX0, tyX0, rfl, uw_0, tyX0_ok, tb_295, tb_296, tb_120, by decide⟩
set_option maxRecDepth 20000 in
theorem tb_299 : Cond.code yX0_init cX0_init 1 none ∈ zTB := zmem (i := 299) rfl rfl
theorem tb_298 : Cond.instanceMethod yX0_init ∈ zTB := zmem (i := 298) (by decide +kernel) rfl
theorem ci_X9_43 : zCI RX9 43 yX0_init cX0_init 1 := ⟨tb_299, tb_120, Or.inr (by decide), ⟨by decide, by decide, by decide +kernel⟩, tb_298, rfl, by decide⟩
theorem ff_X9_44 : zFF RX9 44 9 8 (.object "TraitLines$Flats") := ⟨TX9, 13, tyX9, rfl, uw_9, by decide, rfl, tb_428, tyX9_ok, nmX9, rfl, by decide +kernel⟩
theorem tb_311 : Cond.classLink RX9 48 RX2 ∈ zTB := zmem (i := 311) (by decide +kernel) rfl
theorem tb_312 : Cond.instantiable RX2 10 ∈ zTB := zmem (i := 312) (by decide +kernel) rfl
theorem nw_X9_48 : zNW RX9 48 2 10 := ⟨RX2, TX2, tyX2, rfl, uw_2, tyX2_ok, tb_311, tb_312, tb_121, by decide⟩
set_option maxRecDepth 20000 in
theorem tb_315 : Cond.code yX2_init cX2_init 1 none ∈ zTB := zmem (i := 315) rfl rfl
theorem tb_314 : Cond.instanceMethod yX2_init ∈ zTB := zmem (i := 314) (by decide +kernel) rfl
theorem ci_X9_50 : zCI RX9 50 yX2_init cX2_init 1 := ⟨tb_315, tb_121, Or.inr (by decide), ⟨by decide, by decide, by decide +kernel⟩, tb_314, rfl, by decide⟩
theorem ff_X9_51 : zFF RX9 51 9 9 (.object "TraitLines$Lines") := ⟨TX9, 13, tyX9, rfl, uw_9, by decide, rfl, tb_429, tyX9_ok, nmX9, rfl, by decide +kernel⟩
theorem tb_357 : Cond.classLink RX9 55 RX3 ∈ zTB := zmem (i := 357) (by decide +kernel) rfl
theorem tb_358 : Cond.instantiable RX3 3 ∈ zTB := zmem (i := 358) (by decide +kernel) rfl
theorem nw_X9_55 : zNW RX9 55 3 3 := ⟨RX3, TX3, tyX3, rfl, uw_3, tyX3_ok, tb_357, tb_358, tb_122, by decide⟩
set_option maxRecDepth 20000 in
theorem tb_361 : Cond.code yX3_init cX3_init 1 none ∈ zTB := zmem (i := 361) rfl rfl
theorem tb_360 : Cond.instanceMethod yX3_init ∈ zTB := zmem (i := 360) (by decide +kernel) rfl
theorem ci_X9_57 : zCI RX9 57 yX3_init cX3_init 1 := ⟨tb_361, tb_122, Or.inr (by decide), ⟨by decide, by decide, by decide +kernel⟩, tb_360, rfl, by decide⟩
theorem ff_X9_58 : zFF RX9 58 9 10 (.object "TraitLines$Orders") := ⟨TX9, 13, tyX9, rfl, uw_9, by decide, rfl, tb_430, tyX9_ok, nmX9, rfl, by decide +kernel⟩
theorem tb_373 : Cond.classLink RX9 62 RX6 ∈ zTB := zmem (i := 373) (by decide +kernel) rfl
theorem tb_374 : Cond.instantiable RX6 11 ∈ zTB := zmem (i := 374) (by decide +kernel) rfl
theorem nw_X9_62 : zNW RX9 62 6 11 := ⟨RX6, TX6, tyX6, rfl, uw_6, tyX6_ok, tb_373, tb_374, tb_123, by decide⟩
set_option maxRecDepth 20000 in
theorem tb_377 : Cond.code yX6_init cX6_init 1 none ∈ zTB := zmem (i := 377) rfl rfl
theorem tb_376 : Cond.instanceMethod yX6_init ∈ zTB := zmem (i := 376) (by decide +kernel) rfl
theorem ci_X9_64 : zCI RX9 64 yX6_init cX6_init 1 := ⟨tb_377, tb_123, Or.inr (by decide), ⟨by decide, by decide, by decide +kernel⟩, tb_376, rfl, by decide⟩
theorem ff_X9_65 : zFF RX9 65 9 11 (.object "TraitLines$Sender") := ⟨TX9, 13, tyX9, rfl, uw_9, by decide, rfl, tb_431, tyX9_ok, nmX9, rfl, by decide +kernel⟩
theorem tb_1095 : Cond.methodLink RX10 3 objectInit ∈ zTB := zmem (i := 1095) (by decide +kernel) rfl
theorem ff_X10_11 : zFF RX10 11 10 0 (.array .int) := ⟨TX10, 29, tyX10, rfl, uw_10, by decide, rfl, tb_1096, tyX10_ok, nmX10, rfl, by decide +kernel⟩
theorem ff_X10_15 : zFF RX10 15 10 1 (.array .int) := ⟨TX10, 29, tyX10, rfl, uw_10, by decide, rfl, tb_1097, tyX10_ok, nmX10, rfl, by decide +kernel⟩
theorem ff_X10_18 : zFF RX10 18 10 2 (.array .int) := ⟨TX10, 29, tyX10, rfl, uw_10, by decide, rfl, tb_1098, tyX10_ok, nmX10, rfl, by decide +kernel⟩
theorem ff_X10_21 : zFF RX10 21 10 3 (.array .int) := ⟨TX10, 29, tyX10, rfl, uw_10, by decide, rfl, tb_1099, tyX10_ok, nmX10, rfl, by decide +kernel⟩
theorem tb_1184 : Cond.arrayClass .boolean ∈ zTB := zmem (i := 1184) (by decide +kernel) rfl
theorem ff_X10_24 : zFF RX10 24 10 4 (.array .boolean) := ⟨TX10, 29, tyX10, rfl, uw_10, by decide, rfl, tb_1100, tyX10_ok, nmX10, rfl, by decide +kernel⟩
theorem ff_X10_28 : zFF RX10 28 10 6 (.array .byte) := ⟨TX10, 29, tyX10, rfl, uw_10, by decide, rfl, tb_1102, tyX10_ok, nmX10, rfl, by decide +kernel⟩
theorem ff_X10_32 : zFF RX10 32 10 12 (.array .int) := ⟨TX10, 29, tyX10, rfl, uw_10, by decide, rfl, tb_1108, tyX10_ok, nmX10, rfl, by decide +kernel⟩
theorem ff_X10_35 : zFF RX10 35 10 13 (.array .int) := ⟨TX10, 29, tyX10, rfl, uw_10, by decide, rfl, tb_1109, tyX10_ok, nmX10, rfl, by decide +kernel⟩
theorem ff_X10_38 : zFF RX10 38 10 14 (.array .int) := ⟨TX10, 29, tyX10, rfl, uw_10, by decide, rfl, tb_1110, tyX10_ok, nmX10, rfl, by decide +kernel⟩
theorem ff_X10_41 : zFF RX10 41 10 15 (.array .int) := ⟨TX10, 29, tyX10, rfl, uw_10, by decide, rfl, tb_1111, tyX10_ok, nmX10, rfl, by decide +kernel⟩
theorem ff_X10_44 : zFF RX10 44 10 16 (.array .int) := ⟨TX10, 29, tyX10, rfl, uw_10, by decide, rfl, tb_1112, tyX10_ok, nmX10, rfl, by decide +kernel⟩
theorem ff_X10_47 : zFF RX10 47 10 17 (.array .int) := ⟨TX10, 29, tyX10, rfl, uw_10, by decide, rfl, tb_1113, tyX10_ok, nmX10, rfl, by decide +kernel⟩
theorem ff_X10_50 : zFF RX10 50 10 18 (.array .int) := ⟨TX10, 29, tyX10, rfl, uw_10, by decide, rfl, tb_1114, tyX10_ok, nmX10, rfl, by decide +kernel⟩
theorem ff_X10_53 : zFF RX10 53 10 19 (.array .int) := ⟨TX10, 29, tyX10, rfl, uw_10, by decide, rfl, tb_1115, tyX10_ok, nmX10, rfl, by decide +kernel⟩
theorem ff_X10_56 : zFF RX10 56 10 20 (.array .int) := ⟨TX10, 29, tyX10, rfl, uw_10, by decide, rfl, tb_1116, tyX10_ok, nmX10, rfl, by decide +kernel⟩
theorem tb_1185 : Cond.arrayClass .long ∈ zTB := zmem (i := 1185) (by decide +kernel) rfl
theorem ff_X10_59 : zFF RX10 59 10 21 (.array .long) := ⟨TX10, 29, tyX10, rfl, uw_10, by decide, rfl, tb_1117, tyX10_ok, nmX10, rfl, by decide +kernel⟩
def cmul (mm : zCm) (mc ms n k : Nat) : Option zCm := zob (decide (mm.2.1 + (1 + n) ≤ mc) && decide (mm.2.2 + (n + n * k) ≤ ms)) (some (mm.1 ++ ((26, (n, (List.range n).map (fun i => some (mm.1.length + 1 + i)))) :: List.replicate n (20, (k, []))), (mm.2.1 + 1 + n, mm.2.2 + n + n * k)))
def kX5_init_b (v0 : Nat) (mm : zCm) : Option zCm :=
  (cnar mm 1 4 0 4).bind (fun m1 => (cput m1 v0 5 2 0 mm.1.length).bind (fun m2 => zob (decide (m2.2.1 ≤ 1) && decide (m2.2.2 ≤ 4)) (some m2)))
def kX5_init (v0 : Nat) (cs : List zCl) : Option zCm := kX5_init_b v0 (cs, (0, 0))
theorem wkX5_init {E : zE} {d : Nat} (hd : 1 ≤ d) {Q : zCm → Prop} {v0 : Nat} {mm o : zCm} (h : kX5_init_b v0 mm = some o) (hQ : ∀ r, o = r → Q r) : CV E RX5 cX5_init 1 d 1 4 Q 0 [some (zK 0 v0)] [] mm := by
  unfold kX5_init_b at h
  refine C_aload_n 1 rfl 0 dX5_init_0 rfl rfl ?_
  refine C_obj 4 rfl dX5_init_1 tb_161 tb_141 tb_142 (Nat.le_trans (by decide) hd) (Nat.le_of_ble_eq_true rfl) ?_
  refine C_aload_n 5 rfl 0 dX5_init_4 rfl rfl ?_
  refine C_iconst 6 rfl (v := 4) dX5_init_5 (by decide) ?_
  obtain ⟨m1, h1, h⟩ := zbd h
  refine C_newa 8 rfl (t := 0) dX5_init_6 (by decide) rfl tb_178 (by decide) (by decide) (by decide) h1 ?_
  obtain ⟨m2, h1, h⟩ := zbd h
  refine C_putF 11 rfl dX5_init_8 ff_X5_9 ⟨_, _, rfl⟩ (by decide) (fun _ => rfl) (fun _ => rfl) h1 ?_
  obtain ⟨hi, h⟩ := zobd h
  simp only [Bool.and_eq_true, decide_eq_true_eq] at hi
  exact C_vret dX5_init_11 (hQ m2 (zinj h)) hi
theorem ctkX5_init {E : zE} {d : Nat} (hd : 1 ≤ d) {v0 : Nat} {cs : List zCl} {o : zCm} (h : kX5_init v0 cs = some o) : cCT E yX5_init cX5_init 1 d 1 4 v0 cs (fun m => m.1 = o.1) :=
  cCT_of (by decide) rfl (by decide) rfl (wkX5_init hd h (fun r e => by rw [e]))
def kX7_init_b (v0 : Nat) (mm : zCm) : Option zCm :=
  (cnew mm 8 250 5 2).bind (fun m1 => (kX5_init mm.1.length m1.1).bind (fun w3 => (cadd m1 8 250 1 4 w3.1).bind (fun m2 => (cput m2 v0 7 9 3 mm.1.length).bind (fun m4 => (cnew m4 8 250 5 2).bind (fun m5 => (kX5_init m4.1.length m5.1).bind (fun w7 => (cadd m5 8 250 1 4 w7.1).bind (fun m6 => (cput m6 v0 7 9 4 m4.1.length).bind (fun m8 => (cnar m8 8 250 0 4).bind (fun m9 => (cput m9 v0 7 9 5 m8.1.length).bind (fun m10 => (cnar m10 8 250 0 26).bind (fun m11 => (cput m11 v0 7 9 6 m10.1.length).bind (fun m12 => (cnar m12 8 250 0 104).bind (fun m13 => (cput m13 v0 7 9 7 m12.1.length).bind (fun m14 => (cnar m14 8 250 0 104).bind (fun m15 => (cput m15 v0 7 9 8 m14.1.length).bind (fun m16 => zob (decide (m16.2.1 ≤ 8) && decide (m16.2.2 ≤ 250)) (some m16)))))))))))))))))
def kX7_init (v0 : Nat) (cs : List zCl) : Option zCm := kX7_init_b v0 (cs, (0, 0))
theorem wkX7_init {E : zE} {d : Nat} (hd : 2 ≤ d) {Q : zCm → Prop} {v0 : Nat} {mm o : zCm} (h : kX7_init_b v0 mm = some o) (hQ : ∀ r, o = r → Q r) : CV E RX7 cX7_init 1 d 8 250 Q 0 [some (zK 0 v0)] [] mm := by
  unfold kX7_init_b at h
  refine C_aload_n 1 rfl 0 dX7_init_0 rfl rfl ?_
  refine C_obj 4 rfl dX7_init_1 tb_155 tb_141 tb_142 (Nat.le_trans (by decide) hd) (Nat.le_of_ble_eq_true rfl) ?_
  refine C_aload_n 5 rfl 0 dX7_init_4 rfl rfl ?_
  obtain ⟨m1, h1, h⟩ := zbd h
  refine C_new 8 rfl dX7_init_5 nw_X7_9 h1 ?_
  refine C_dup 9 rfl dX7_init_8 rfl ?_
  obtain ⟨w3, h1, h⟩ := zbd h
  obtain ⟨m2, h2, h⟩ := zbd h
  refine C_ctor 12 rfl 1 [zK 0 mm.1.length, zK 0 v0] dX7_init_9 ci_X7_11 (ctkX5_init (Nat.le_refl 1) h1) (Nat.le_trans (by decide) hd) (Nat.le_of_ble_eq_true rfl) h2 ?_
  obtain ⟨m4, h1, h⟩ := zbd h
  refine C_putF 15 rfl dX7_init_12 ff_X7_12 ⟨_, _, rfl⟩ (by decide) (fun _ => rfl) (fun _ => rfl) h1 ?_
  refine C_aload_n 16 rfl 0 dX7_init_15 rfl rfl ?_
  obtain ⟨m5, h1, h⟩ := zbd h
  refine C_new 19 rfl dX7_init_16 nw_X7_9 h1 ?_
  refine C_dup 20 rfl dX7_init_19 rfl ?_
  obtain ⟨w7, h1, h⟩ := zbd h
  obtain ⟨m6, h2, h⟩ := zbd h
  refine C_ctor 23 rfl 1 [zK 0 m4.1.length, zK 0 v0] dX7_init_20 ci_X7_11 (ctkX5_init (Nat.le_refl 1) h1) (Nat.le_trans (by decide) hd) (Nat.le_of_ble_eq_true rfl) h2 ?_
  obtain ⟨m8, h1, h⟩ := zbd h
  refine C_putF 26 rfl dX7_init_23 ff_X7_18 ⟨_, _, rfl⟩ (by decide) (fun _ => rfl) (fun _ => rfl) h1 ?_
  refine C_aload_n 27 rfl 0 dX7_init_26 rfl rfl ?_
  refine C_iconst 28 rfl (v := 4) dX7_init_27 (by decide) ?_
  obtain ⟨m9, h1, h⟩ := zbd h
  refine C_newa 30 rfl (t := 0) dX7_init_28 (by decide) rfl tb_178 (by decide) (by decide) (by decide) h1 ?_
  obtain ⟨m10, h1, h⟩ := zbd h
  refine C_putF 33 rfl dX7_init_30 ff_X7_21 ⟨_, _, rfl⟩ (by decide) (fun _ => rfl) (fun _ => rfl) h1 ?_
  refine C_aload_n 34 rfl 0 dX7_init_33 rfl rfl ?_
  refine C_bipush 36 rfl (v := 26) dX7_init_34 (by decide) ?_
  obtain ⟨m11, h1, h⟩ := zbd h
  refine C_newa 38 rfl (t := 0) dX7_init_36 (by decide) rfl tb_178 (by decide) (by decide) (by decide) h1 ?_
  obtain ⟨m12, h1, h⟩ := zbd h
  refine C_putF 41 rfl dX7_init_38 ff_X7_25 ⟨_, _, rfl⟩ (by decide) (fun _ => rfl) (fun _ => rfl) h1 ?_
  refine C_aload_n 42 rfl 0 dX7_init_41 rfl rfl ?_
  refine C_bipush 44 rfl (v := 104) dX7_init_42 (by decide) ?_
  obtain ⟨m13, h1, h⟩ := zbd h
  refine C_newa 46 rfl (t := 0) dX7_init_44 (by decide) rfl tb_178 (by decide) (by decide) (by decide) h1 ?_
  obtain ⟨m14, h1, h⟩ := zbd h
  refine C_putF 49 rfl dX7_init_46 ff_X7_28 ⟨_, _, rfl⟩ (by decide) (fun _ => rfl) (fun _ => rfl) h1 ?_
  refine C_aload_n 50 rfl 0 dX7_init_49 rfl rfl ?_
  refine C_bipush 52 rfl (v := 104) dX7_init_50 (by decide) ?_
  obtain ⟨m15, h1, h⟩ := zbd h
  refine C_newa 54 rfl (t := 0) dX7_init_52 (by decide) rfl tb_178 (by decide) (by decide) (by decide) h1 ?_
  obtain ⟨m16, h1, h⟩ := zbd h
  refine C_putF 57 rfl dX7_init_54 ff_X7_31 ⟨_, _, rfl⟩ (by decide) (fun _ => rfl) (fun _ => rfl) h1 ?_
  obtain ⟨hi, h⟩ := zobd h
  simp only [Bool.and_eq_true, decide_eq_true_eq] at hi
  exact C_vret dX7_init_57 (hQ m16 (zinj h)) hi
theorem ctkX7_init {E : zE} {d : Nat} (hd : 2 ≤ d) {v0 : Nat} {cs : List zCl} {o : zCm} (h : kX7_init v0 cs = some o) : cCT E yX7_init cX7_init 1 d 8 250 v0 cs (fun m => m.1 = o.1) :=
  cCT_of (by decide) rfl (by decide) rfl (wkX7_init hd h (fun r e => by rw [e]))
def kX8_init_L15 (v0 : Nat) (s : Int32 × zCm) : Option ((Int32 × zCm) ⊕ (zCm ⊕ Empty)) :=
  if 12 ≤ s.1 then (some (.inr (.inl s.2))) else ((cget s.2 v0 8 2 0).bind (fun q3 => (cnew s.2 109 3120 7 9).bind (fun m4 => (kX7_init s.2.1.length m4.1).bind (fun w6 => (cadd m4 109 3120 8 250 w6.1).bind (fun m5 => (cast_ m5 q3 4 7 s.2.1.length s.1).bind (fun m7 => some (.inl ((s.1 + 1), m7))))))))
def kX8_init_b (v0 : Nat) (mm : zCm) : Option zCm :=
  (cnar mm 109 3120 4 12).bind (fun m1 => (cput m1 v0 8 2 0 mm.1.length).bind (fun m2 => (zloop (kX8_init_L15 v0) 20 (0, m2)).bind (fun o9 => zcase o9 (fun y8 => zob (decide (y8.2.1 ≤ 109) && decide (y8.2.2 ≤ 3120)) (some y8)) (fun r10 => r10.elim))))
def kX8_init (v0 : Nat) (cs : List zCl) : Option zCm := kX8_init_b v0 (cs, (0, 0))
theorem wkX8_init_L15 {E : zE} {d : Nat} (hd : 3 ≤ d) {Q : zCm → Prop} {v0 n : Nat} {s : Int32 × zCm} {o : zCm ⊕ Empty} (h : zloop (kX8_init_L15 v0) n s = some o) (he : ∀ y : zCm, o = .inl y → CV E RX8 cX8_init 2 d 109 3120 Q 40 [some (zK 0 v0), none] [] y) : CV E RX8 cX8_init 2 d 109 3120 Q 15 [some (zK 0 v0), some (zI s.1)] [] s.2 := by
  induction n generalizing s with
  | zero => exact (zloop_0 h).elim
  | succ n ih =>
    obtain ⟨o1, h1, hc1, he1⟩ := zloop_s h
    have kc : ∀ s' : Int32 × zCm, o1 = .inl s' → CV E RX8 cX8_init 2 d 109 3120 Q 15 [some (zK 0 v0), some (zI s'.1)] [] s'.2 := fun s' e => ih (hc1 s' e)
    have ke : ∀ y : zCm, o1 = .inr (.inl y) → CV E RX8 cX8_init 2 d 109 3120 Q 40 [some (zK 0 v0), none] [] y := fun y e => he y (he1 _ e)
    clear h hc1 he1 ih
    have h := h1
    clear h1
    unfold kX8_init_L15 at h
    refine C_iload_n 16 rfl 1 dX8_init_15 rfl rfl ?_
    refine C_bipush 18 rfl (v := 12) dX8_init_16 (by decide) ?_
    refine C_icmp_ge 21 40 rfl dX8_init_18 (by decide) (fun c => ?_) (fun c => ?_)
    · have h := zpos c h
      exact C_w (zsub_s (zsub_n zsub_0)) (ke s.2 (zinj h))
    · have h := zneg c h
      refine C_aload_n 22 rfl 0 dX8_init_21 rfl rfl ?_
      obtain ⟨q3, h1, h⟩ := zbd h
      refine C_getr 25 rfl dX8_init_22 fl_X8_11 2 ⟨_, _, rfl⟩ (by decide) h1 ?_
      refine C_iload_n 26 rfl 1 dX8_init_25 rfl rfl ?_
      obtain ⟨m4, h1, h⟩ := zbd h
      refine C_new 29 rfl dX8_init_26 nw_X8_9 h1 ?_
      refine C_dup 30 rfl dX8_init_29 rfl ?_
      obtain ⟨w6, h1, h⟩ := zbd h
      obtain ⟨m5, h2, h⟩ := zbd h
      refine C_ctor 33 rfl 2 [zK 0 s.2.1.length, zI s.1, zK 0 q3] dX8_init_30 ci_X8_17 (ctkX7_init (Nat.le_refl 2) h1) (Nat.le_trans (by decide) hd) (Nat.le_of_ble_eq_true rfl) h2 ?_
      obtain ⟨m7, h1, h⟩ := zbd h
      refine C_aast 34 rfl (t := 4) (ci := 7) dX8_init_33 (Or.inl ⟨rfl, rfl⟩) h1 ?_
      refine C_iinc 37 rfl (s.1 + 1) (L' := [some (zK 0 v0), some (zI (s.1 + 1))]) dX8_init_34 rfl rfl (by decide) rfl ?_
      refine C_goto 15 dX8_init_37 (by decide) ?_
      exact kc ((s.1 + 1), m7) (zinj h)
theorem wkX8_init {E : zE} {d : Nat} (hd : 3 ≤ d) {Q : zCm → Prop} {v0 : Nat} {mm o : zCm} (h : kX8_init_b v0 mm = some o) (hQ : ∀ r, o = r → Q r) : CV E RX8 cX8_init 2 d 109 3120 Q 0 [some (zK 0 v0), none] [] mm := by
  unfold kX8_init_b at h
  refine C_aload_n 1 rfl 0 dX8_init_0 rfl rfl ?_
  refine C_obj 4 rfl dX8_init_1 tb_148 tb_141 tb_142 (Nat.le_trans (by decide) hd) (Nat.le_of_ble_eq_true rfl) ?_
  refine C_aload_n 5 rfl 0 dX8_init_4 rfl rfl ?_
  refine C_bipush 7 rfl (v := 12) dX8_init_5 (by decide) ?_
  obtain ⟨m1, h1, h⟩ := zbd h
  refine C_anew 10 rfl (t := 4) dX8_init_7 (Or.inl ⟨rfl, rfl⟩) tb_149 (by decide) (by decide) (by decide) h1 ?_
  obtain ⟨m2, h1, h⟩ := zbd h
  refine C_putF 13 rfl dX8_init_10 ff_X8_11 ⟨_, _, rfl⟩ (by decide) (fun _ => rfl) (fun _ => rfl) h1 ?_
  refine C_iconst 14 rfl (v := 0) dX8_init_13 (by decide) ?_
  refine C_istore_n 15 rfl 1 (L' := [some (zK 0 v0), some (zI 0)]) dX8_init_14 rfl (by decide) rfl ?_
  obtain ⟨o9, h1, h⟩ := zbd h
  refine wkX8_init_L15 hd h1 (fun y8 e => ?_)
  have h := zcl_ e h
  obtain ⟨hi, h⟩ := zobd h
  simp only [Bool.and_eq_true, decide_eq_true_eq] at hi
  exact C_vret dX8_init_40 (hQ y8 (zinj h)) hi
theorem ctkX8_init {E : zE} {d : Nat} (hd : 3 ≤ d) {v0 : Nat} {cs : List zCl} {o : zCm} (h : kX8_init v0 cs = some o) : cCT E yX8_init cX8_init 2 d 109 3120 v0 cs (fun m => m.1 = o.1) :=
  cCT_of (by decide) rfl (by decide) rfl (wkX8_init hd h (fun r e => by rw [e]))
def kX1_init_L23 (v0 : Nat) (s : Int32 × zCm) : Option ((Int32 × zCm) ⊕ (zCm ⊕ Empty)) :=
  if 10 ≤ s.1 then (some (.inr (.inl s.2))) else ((cget s.2 v0 1 4 0).bind (fun q5 => (cnew s.2 92 2610 7 9).bind (fun m6 => (kX7_init s.2.1.length m6.1).bind (fun w8 => (cadd m6 92 2610 8 250 w8.1).bind (fun m7 => (cast_ m7 q5 4 7 s.2.1.length s.1).bind (fun m9 => some (.inl ((s.1 + 1), m9))))))))
def kX1_init_b (v0 : Nat) (mm : zCm) : Option zCm :=
  (cnar mm 92 2610 4 10).bind (fun m1 => (cput m1 v0 1 4 0 mm.1.length).bind (fun m2 => (cnar m2 92 2610 0 10).bind (fun m3 => (cput m3 v0 1 4 1 m2.1.length).bind (fun m4 => (zloop (kX1_init_L23 v0) 20 (0, m4)).bind (fun o11 => zcase o11 (fun y10 => zob (decide (y10.2.1 ≤ 92) && decide (y10.2.2 ≤ 2610)) (some y10)) (fun r12 => r12.elim))))))
def kX1_init (v0 : Nat) (cs : List zCl) : Option zCm := kX1_init_b v0 (cs, (0, 0))
theorem wkX1_init_L23 {E : zE} {d : Nat} (hd : 3 ≤ d) {Q : zCm → Prop} {v0 n : Nat} {s : Int32 × zCm} {o : zCm ⊕ Empty} (h : zloop (kX1_init_L23 v0) n s = some o) (he : ∀ y : zCm, o = .inl y → CV E RX1 cX1_init 2 d 92 2610 Q 48 [some (zK 0 v0), none] [] y) : CV E RX1 cX1_init 2 d 92 2610 Q 23 [some (zK 0 v0), some (zI s.1)] [] s.2 := by
  induction n generalizing s with
  | zero => exact (zloop_0 h).elim
  | succ n ih =>
    obtain ⟨o1, h1, hc1, he1⟩ := zloop_s h
    have kc : ∀ s' : Int32 × zCm, o1 = .inl s' → CV E RX1 cX1_init 2 d 92 2610 Q 23 [some (zK 0 v0), some (zI s'.1)] [] s'.2 := fun s' e => ih (hc1 s' e)
    have ke : ∀ y : zCm, o1 = .inr (.inl y) → CV E RX1 cX1_init 2 d 92 2610 Q 48 [some (zK 0 v0), none] [] y := fun y e => he y (he1 _ e)
    clear h hc1 he1 ih
    have h := h1
    clear h1
    unfold kX1_init_L23 at h
    refine C_iload_n 24 rfl 1 dX1_init_23 rfl rfl ?_
    refine C_bipush 26 rfl (v := 10) dX1_init_24 (by decide) ?_
    refine C_icmp_ge 29 48 rfl dX1_init_26 (by decide) (fun c => ?_) (fun c => ?_)
    · have h := zpos c h
      exact C_w (zsub_s (zsub_n zsub_0)) (ke s.2 (zinj h))
    · have h := zneg c h
      refine C_aload_n 30 rfl 0 dX1_init_29 rfl rfl ?_
      obtain ⟨q5, h1, h⟩ := zbd h
      refine C_getr 33 rfl dX1_init_30 fl_X1_11 4 ⟨_, _, rfl⟩ (by decide) h1 ?_
      refine C_iload_n 34 rfl 1 dX1_init_33 rfl rfl ?_
      obtain ⟨m6, h1, h⟩ := zbd h
      refine C_new 37 rfl dX1_init_34 nw_X1_9 h1 ?_
      refine C_dup 38 rfl dX1_init_37 rfl ?_
      obtain ⟨w8, h1, h⟩ := zbd h
      obtain ⟨m7, h2, h⟩ := zbd h
      refine C_ctor 41 rfl 2 [zK 0 s.2.1.length, zI s.1, zK 0 q5] dX1_init_38 ci_X1_21 (ctkX7_init (Nat.le_refl 2) h1) (Nat.le_trans (by decide) hd) (Nat.le_of_ble_eq_true rfl) h2 ?_
      obtain ⟨m9, h1, h⟩ := zbd h
      refine C_aast 42 rfl (t := 4) (ci := 7) dX1_init_41 (Or.inl ⟨rfl, rfl⟩) h1 ?_
      refine C_iinc 45 rfl (s.1 + 1) (L' := [some (zK 0 v0), some (zI (s.1 + 1))]) dX1_init_42 rfl rfl (by decide) rfl ?_
      refine C_goto 23 dX1_init_45 (by decide) ?_
      exact kc ((s.1 + 1), m9) (zinj h)
theorem wkX1_init {E : zE} {d : Nat} (hd : 3 ≤ d) {Q : zCm → Prop} {v0 : Nat} {mm o : zCm} (h : kX1_init_b v0 mm = some o) (hQ : ∀ r, o = r → Q r) : CV E RX1 cX1_init 2 d 92 2610 Q 0 [some (zK 0 v0), none] [] mm := by
  unfold kX1_init_b at h
  refine C_aload_n 1 rfl 0 dX1_init_0 rfl rfl ?_
  refine C_obj 4 rfl dX1_init_1 tb_278 tb_141 tb_142 (Nat.le_trans (by decide) hd) (Nat.le_of_ble_eq_true rfl) ?_
  refine C_aload_n 5 rfl 0 dX1_init_4 rfl rfl ?_
  refine C_bipush 7 rfl (v := 10) dX1_init_5 (by decide) ?_
  obtain ⟨m1, h1, h⟩ := zbd h
  refine C_anew 10 rfl (t := 4) dX1_init_7 (Or.inl ⟨rfl, rfl⟩) tb_279 (by decide) (by decide) (by decide) h1 ?_
  obtain ⟨m2, h1, h⟩ := zbd h
  refine C_putF 13 rfl dX1_init_10 ff_X1_11 ⟨_, _, rfl⟩ (by decide) (fun _ => rfl) (fun _ => rfl) h1 ?_
  refine C_aload_n 14 rfl 0 dX1_init_13 rfl rfl ?_
  refine C_bipush 16 rfl (v := 10) dX1_init_14 (by decide) ?_
  obtain ⟨m3, h1, h⟩ := zbd h
  refine C_newa 18 rfl (t := 0) dX1_init_16 (by decide) rfl tb_178 (by decide) (by decide) (by decide) h1 ?_
  obtain ⟨m4, h1, h⟩ := zbd h
  refine C_putF 21 rfl dX1_init_18 ff_X1_17 ⟨_, _, rfl⟩ (by decide) (fun _ => rfl) (fun _ => rfl) h1 ?_
  refine C_iconst 22 rfl (v := 0) dX1_init_21 (by decide) ?_
  refine C_istore_n 23 rfl 1 (L' := [some (zK 0 v0), some (zI 0)]) dX1_init_22 rfl (by decide) rfl ?_
  obtain ⟨o11, h1, h⟩ := zbd h
  refine wkX1_init_L23 hd h1 (fun y10 e => ?_)
  have h := zcl_ e h
  obtain ⟨hi, h⟩ := zobd h
  simp only [Bool.and_eq_true, decide_eq_true_eq] at hi
  exact C_vret dX1_init_48 (hQ y10 (zinj h)) hi
theorem ctkX1_init {E : zE} {d : Nat} (hd : 3 ≤ d) {v0 : Nat} {cs : List zCl} {o : zCm} (h : kX1_init v0 cs = some o) : cCT E yX1_init cX1_init 2 d 92 2610 v0 cs (fun m => m.1 = o.1) :=
  cCT_of (by decide) rfl (by decide) rfl (wkX1_init hd h (fun r e => by rw [e]))
def kX0_init_b (v0 : Nat) (mm : zCm) : Option zCm :=
  (cnar mm 3 936 0 312).bind (fun m1 => (cput m1 v0 0 3 0 mm.1.length).bind (fun m2 => (cnar m2 3 936 0 312).bind (fun m3 => (cput m3 v0 0 3 1 m2.1.length).bind (fun m4 => (cnar m4 3 936 0 312).bind (fun m5 => (cput m5 v0 0 3 2 m4.1.length).bind (fun m6 => zob (decide (m6.2.1 ≤ 3) && decide (m6.2.2 ≤ 936)) (some m6)))))))
def kX0_init (v0 : Nat) (cs : List zCl) : Option zCm := kX0_init_b v0 (cs, (0, 0))
theorem wkX0_init {E : zE} {d : Nat} (hd : 1 ≤ d) {Q : zCm → Prop} {v0 : Nat} {mm o : zCm} (h : kX0_init_b v0 mm = some o) (hQ : ∀ r, o = r → Q r) : CV E RX0 cX0_init 1 d 3 936 Q 0 [some (zK 0 v0)] [] mm := by
  unfold kX0_init_b at h
  refine C_aload_n 1 rfl 0 dX0_init_0 rfl rfl ?_
  refine C_obj 4 rfl dX0_init_1 tb_300 tb_141 tb_142 (Nat.le_trans (by decide) hd) (Nat.le_of_ble_eq_true rfl) ?_
  refine C_aload_n 5 rfl 0 dX0_init_4 rfl rfl ?_
  refine C_sipush 8 rfl (v := 312) dX0_init_5 (by decide) ?_
  obtain ⟨m1, h1, h⟩ := zbd h
  refine C_newa 10 rfl (t := 0) dX0_init_8 (by decide) rfl tb_178 (by decide) (by decide) (by decide) h1 ?_
  obtain ⟨m2, h1, h⟩ := zbd h
  refine C_putF 13 rfl dX0_init_10 ff_X0_9 ⟨_, _, rfl⟩ (by decide) (fun _ => rfl) (fun _ => rfl) h1 ?_
  refine C_aload_n 14 rfl 0 dX0_init_13 rfl rfl ?_
  refine C_sipush 17 rfl (v := 312) dX0_init_14 (by decide) ?_
  obtain ⟨m3, h1, h⟩ := zbd h
  refine C_newa 19 rfl (t := 0) dX0_init_17 (by decide) rfl tb_178 (by decide) (by decide) (by decide) h1 ?_
  obtain ⟨m4, h1, h⟩ := zbd h
  refine C_putF 22 rfl dX0_init_19 ff_X0_15 ⟨_, _, rfl⟩ (by decide) (fun _ => rfl) (fun _ => rfl) h1 ?_
  refine C_aload_n 23 rfl 0 dX0_init_22 rfl rfl ?_
  refine C_sipush 26 rfl (v := 312) dX0_init_23 (by decide) ?_
  obtain ⟨m5, h1, h⟩ := zbd h
  refine C_newa 28 rfl (t := 0) dX0_init_26 (by decide) rfl tb_178 (by decide) (by decide) (by decide) h1 ?_
  obtain ⟨m6, h1, h⟩ := zbd h
  refine C_putF 31 rfl dX0_init_28 ff_X0_18 ⟨_, _, rfl⟩ (by decide) (fun _ => rfl) (fun _ => rfl) h1 ?_
  obtain ⟨hi, h⟩ := zobd h
  simp only [Bool.and_eq_true, decide_eq_true_eq] at hi
  exact C_vret dX0_init_31 (hQ m6 (zinj h)) hi
theorem ctkX0_init {E : zE} {d : Nat} (hd : 1 ≤ d) {v0 : Nat} {cs : List zCl} {o : zCm} (h : kX0_init v0 cs = some o) : cCT E yX0_init cX0_init 1 d 3 936 v0 cs (fun m => m.1 = o.1) :=
  cCT_of (by decide) rfl (by decide) rfl (wkX0_init hd h (fun r e => by rw [e]))
def kX2_init_b (v0 : Nat) (mm : zCm) : Option zCm :=
  (cmul mm 38 435 12 12).bind (fun m1 => (cput m1 v0 2 10 0 mm.1.length).bind (fun m2 => (cnar m2 38 435 0 12).bind (fun m3 => (cput m3 v0 2 10 1 m2.1.length).bind (fun m4 => (cmul m4 38 435 12 12).bind (fun m5 => (cput m5 v0 2 10 2 m4.1.length).bind (fun m6 => (cnar m6 38 435 0 12).bind (fun m7 => (cput m7 v0 2 10 3 m6.1.length).bind (fun m8 => (cnar m8 38 435 0 12).bind (fun m9 => (cput m9 v0 2 10 4 m8.1.length).bind (fun m10 => (cmul m10 38 435 5 12).bind (fun m11 => (cput m11 v0 2 10 5 m10.1.length).bind (fun m12 => (cnar m12 38 435 0 5).bind (fun m13 => (cput m13 v0 2 10 6 m12.1.length).bind (fun m14 => (cnar m14 38 435 0 5).bind (fun m15 => (cput m15 v0 2 10 7 m14.1.length).bind (fun m16 => (cnar m16 38 435 0 12).bind (fun m17 => (cput m17 v0 2 10 8 m16.1.length).bind (fun m18 => zob (decide (m18.2.1 ≤ 38) && decide (m18.2.2 ≤ 435)) (some m18)))))))))))))))))))
def kX2_init (v0 : Nat) (cs : List zCl) : Option zCm := kX2_init_b v0 (cs, (0, 0))
def kX3_init_b (v0 : Nat) (mm : zCm) : Option zCm :=
  (cnar mm 2 4108 0 12).bind (fun m1 => (cput m1 v0 3 3 0 mm.1.length).bind (fun m2 => (cnar m2 2 4108 0 4096).bind (fun m3 => (cput m3 v0 3 3 1 m2.1.length).bind (fun m4 => zob (decide (m4.2.1 ≤ 2) && decide (m4.2.2 ≤ 4108)) (some m4)))))
def kX3_init (v0 : Nat) (cs : List zCl) : Option zCm := kX3_init_b v0 (cs, (0, 0))
theorem wkX3_init {E : zE} {d : Nat} (hd : 1 ≤ d) {Q : zCm → Prop} {v0 : Nat} {mm o : zCm} (h : kX3_init_b v0 mm = some o) (hQ : ∀ r, o = r → Q r) : CV E RX3 cX3_init 1 d 2 4108 Q 0 [some (zK 0 v0)] [] mm := by
  unfold kX3_init_b at h
  refine C_aload_n 1 rfl 0 dX3_init_0 rfl rfl ?_
  refine C_obj 4 rfl dX3_init_1 tb_362 tb_141 tb_142 (Nat.le_trans (by decide) hd) (Nat.le_of_ble_eq_true rfl) ?_
  refine C_aload_n 5 rfl 0 dX3_init_4 rfl rfl ?_
  refine C_bipush 7 rfl (v := 12) dX3_init_5 (by decide) ?_
  obtain ⟨m1, h1, h⟩ := zbd h
  refine C_newa 9 rfl (t := 0) dX3_init_7 (by decide) rfl tb_178 (by decide) (by decide) (by decide) h1 ?_
  obtain ⟨m2, h1, h⟩ := zbd h
  refine C_putF 12 rfl dX3_init_9 ff_X3_9 ⟨_, _, rfl⟩ (by decide) (fun _ => rfl) (fun _ => rfl) h1 ?_
  refine C_aload_n 13 rfl 0 dX3_init_12 rfl rfl ?_
  refine C_sipush 16 rfl (v := 4096) dX3_init_13 (by decide) ?_
  obtain ⟨m3, h1, h⟩ := zbd h
  refine C_newa 18 rfl (t := 0) dX3_init_16 (by decide) rfl tb_178 (by decide) (by decide) (by decide) h1 ?_
  obtain ⟨m4, h1, h⟩ := zbd h
  refine C_putF 21 rfl dX3_init_18 ff_X3_15 ⟨_, _, rfl⟩ (by decide) (fun _ => rfl) (fun _ => rfl) h1 ?_
  obtain ⟨hi, h⟩ := zobd h
  simp only [Bool.and_eq_true, decide_eq_true_eq] at hi
  exact C_vret dX3_init_21 (hQ m4 (zinj h)) hi
theorem ctkX3_init {E : zE} {d : Nat} (hd : 1 ≤ d) {v0 : Nat} {cs : List zCl} {o : zCm} (h : kX3_init v0 cs = some o) : cCT E yX3_init cX3_init 1 d 2 4108 v0 cs (fun m => m.1 = o.1) :=
  cCT_of (by decide) rfl (by decide) rfl (wkX3_init hd h (fun r e => by rw [e]))
def kX4_init_b (v0 : Nat) (mm : zCm) : Option zCm :=
  zob (decide (mm.2.1 ≤ 0) && decide (mm.2.2 ≤ 0)) (some mm)
def kX4_init (v0 : Nat) (cs : List zCl) : Option zCm := kX4_init_b v0 (cs, (0, 0))
theorem wkX4_init {E : zE} {d : Nat} (hd : 1 ≤ d) {Q : zCm → Prop} {v0 : Nat} {mm o : zCm} (h : kX4_init_b v0 mm = some o) (hQ : ∀ r, o = r → Q r) : CV E RX4 cX4_init 1 d 0 0 Q 0 [some (zK 0 v0)] [] mm := by
  unfold kX4_init_b at h
  refine C_aload_n 1 rfl 0 dX4_init_0 rfl rfl ?_
  refine C_obj 4 rfl dX4_init_1 tb_247 tb_141 tb_142 (Nat.le_trans (by decide) hd) (Nat.le_of_ble_eq_true rfl) ?_
  obtain ⟨hi, h⟩ := zobd h
  simp only [Bool.and_eq_true, decide_eq_true_eq] at hi
  exact C_vret dX4_init_4 (hQ mm (zinj h)) hi
theorem ctkX4_init {E : zE} {d : Nat} (hd : 1 ≤ d) {v0 : Nat} {cs : List zCl} {o : zCm} (h : kX4_init v0 cs = some o) : cCT E yX4_init cX4_init 1 d 0 0 v0 cs (fun m => m.1 = o.1) :=
  cCT_of (by decide) rfl (by decide) rfl (wkX4_init hd h (fun r e => by rw [e]))
def kX6_init_b (v0 : Nat) (mm : zCm) : Option zCm :=
  zob (decide (mm.2.1 ≤ 0) && decide (mm.2.2 ≤ 0)) (some mm)
def kX6_init (v0 : Nat) (cs : List zCl) : Option zCm := kX6_init_b v0 (cs, (0, 0))
theorem wkX6_init {E : zE} {d : Nat} (hd : 1 ≤ d) {Q : zCm → Prop} {v0 : Nat} {mm o : zCm} (h : kX6_init_b v0 mm = some o) (hQ : ∀ r, o = r → Q r) : CV E RX6 cX6_init 1 d 0 0 Q 0 [some (zK 0 v0)] [] mm := by
  unfold kX6_init_b at h
  refine C_aload_n 1 rfl 0 dX6_init_0 rfl rfl ?_
  refine C_obj 4 rfl dX6_init_1 tb_378 tb_141 tb_142 (Nat.le_trans (by decide) hd) (Nat.le_of_ble_eq_true rfl) ?_
  obtain ⟨hi, h⟩ := zobd h
  simp only [Bool.and_eq_true, decide_eq_true_eq] at hi
  exact C_vret dX6_init_4 (hQ mm (zinj h)) hi
theorem ctkX6_init {E : zE} {d : Nat} (hd : 1 ≤ d) {v0 : Nat} {cs : List zCl} {o : zCm} (h : kX6_init v0 cs = some o) : cCT E yX6_init cX6_init 1 d 0 0 v0 cs (fun m => m.1 = o.1) :=
  cCT_of (by decide) rfl (by decide) rfl (wkX6_init hd h (fun r e => by rw [e]))
def kX9_init_L111 (v0 : Nat) (s : Int32 × zCm) : Option ((Int32 × zCm) ⊕ (zCm ⊕ Empty)) :=
  if 2 ≤ s.1 then (some (.inr (.inl s.2))) else ((cget s.2 v0 9 13 4).bind (fun q37 => (cnew s.2 583 21018 8 2).bind (fun m38 => (kX8_init s.2.1.length m38.1).bind (fun w40 => (cadd m38 583 21018 109 3120 w40.1).bind (fun m39 => (cast_ m39 q37 5 8 s.2.1.length s.1).bind (fun m41 => some (.inl ((s.1 + 1), m41))))))))
def kX9_init_b (v0 : Nat) (mm : zCm) : Option zCm :=
  (cnar mm 583 21018 1 400).bind (fun m1 => (cput m1 v0 9 13 0 mm.1.length).bind (fun m2 => (cnew m2 583 21018 8 2).bind (fun m3 => (kX8_init m2.1.length m3.1).bind (fun w5 => (cadd m3 583 21018 109 3120 w5.1).bind (fun m4 => (cput m4 v0 9 13 2 m2.1.length).bind (fun m6 => (cnew m6 583 21018 8 2).bind (fun m7 => (kX8_init m6.1.length m7.1).bind (fun w9 => (cadd m7 583 21018 109 3120 w9.1).bind (fun m8 => (cput m8 v0 9 13 3 m6.1.length).bind (fun m10 => (cnar m10 583 21018 5 2).bind (fun m11 => (cput m11 v0 9 13 4 m10.1.length).bind (fun m12 => (cnew m12 583 21018 4 8).bind (fun m13 => (kX4_init m12.1.length m13.1).bind (fun w15 => (cadd m13 583 21018 0 0 w15.1).bind (fun m14 => (cput m14 v0 9 13 6 m12.1.length).bind (fun m16 => (cnew m16 583 21018 1 4).bind (fun m17 => (kX1_init m16.1.length m17.1).bind (fun w19 => (cadd m17 583 21018 92 2610 w19.1).bind (fun m18 => (cput m18 v0 9 13 7 m16.1.length).bind (fun m20 => (cnew m20 583 21018 0 3).bind (fun m21 => (kX0_init m20.1.length m21.1).bind (fun w23 => (cadd m21 583 21018 3 936 w23.1).bind (fun m22 => (cput m22 v0 9 13 8 m20.1.length).bind (fun m24 => (cnew m24 583 21018 2 10).bind (fun m25 => (kX2_init m24.1.length m25.1).bind (fun w27 => (cadd m25 583 21018 38 435 w27.1).bind (fun m26 => (cput m26 v0 9 13 9 m24.1.length).bind (fun m28 => (cnew m28 583 21018 3 3).bind (fun m29 => (kX3_init m28.1.length m29.1).bind (fun w31 => (cadd m29 583 21018 2 4108 w31.1).bind (fun m30 => (cput m30 v0 9 13 10 m28.1.length).bind (fun m32 => (cnew m32 583 21018 6 11).bind (fun m33 => (kX6_init m32.1.length m33.1).bind (fun w35 => (cadd m33 583 21018 0 0 w35.1).bind (fun m34 => (cput m34 v0 9 13 11 m32.1.length).bind (fun m36 => (zloop (kX9_init_L111 v0) 20 (0, m36)).bind (fun o43 => zcase o43 (fun y42 => zob (decide (y42.2.1 ≤ 583) && decide (y42.2.2 ≤ 21018)) (some y42)) (fun r44 => r44.elim))))))))))))))))))))))))))))))))))))))
def kX9_init (v0 : Nat) (cs : List zCl) : Option zCm := kX9_init_b v0 (cs, (0, 0))
theorem wkX9_init_L111 {E : zE} {d : Nat} (hd : 4 ≤ d) (hX2 : ∀ {v0 : Nat} {cs : List zCl} {o : zCm}, kX2_init v0 cs = some o → cCT E yX2_init cX2_init 1 1 38 435 v0 cs (fun m => m.1 = o.1)) {Q : zCm → Prop} {v0 n : Nat} {s : Int32 × zCm} {o : zCm ⊕ Empty} (h : zloop (kX9_init_L111 v0) n s = some o) (he : ∀ y : zCm, o = .inl y → CV E RX9 cX9_init 2 d 583 21018 Q 135 [some (zK 0 v0), none] [] y) : CV E RX9 cX9_init 2 d 583 21018 Q 111 [some (zK 0 v0), some (zI s.1)] [] s.2 := by
  induction n generalizing s with
  | zero => exact (zloop_0 h).elim
  | succ n ih =>
    obtain ⟨o1, h1, hc1, he1⟩ := zloop_s h
    have kc : ∀ s' : Int32 × zCm, o1 = .inl s' → CV E RX9 cX9_init 2 d 583 21018 Q 111 [some (zK 0 v0), some (zI s'.1)] [] s'.2 := fun s' e => ih (hc1 s' e)
    have ke : ∀ y : zCm, o1 = .inr (.inl y) → CV E RX9 cX9_init 2 d 583 21018 Q 135 [some (zK 0 v0), none] [] y := fun y e => he y (he1 _ e)
    clear h hc1 he1 ih
    have h := h1
    clear h1
    unfold kX9_init_L111 at h
    refine C_iload_n 112 rfl 1 dX9_init_111 rfl rfl ?_
    refine C_iconst 113 rfl (v := 2) dX9_init_112 (by decide) ?_
    refine C_icmp_ge 116 135 rfl dX9_init_113 (by decide) (fun c => ?_) (fun c => ?_)
    · have h := zpos c h
      exact C_w (zsub_s (zsub_n zsub_0)) (ke s.2 (zinj h))
    · have h := zneg c h
      refine C_aload_n 117 rfl 0 dX9_init_116 rfl rfl ?_
      obtain ⟨q37, h1, h⟩ := zbd h
      refine C_getr 120 rfl dX9_init_117 fl_X9_23 13 ⟨_, _, rfl⟩ (by decide) h1 ?_
      refine C_iload_n 121 rfl 1 dX9_init_120 rfl rfl ?_
      obtain ⟨m38, h1, h⟩ := zbd h
      refine C_new 124 rfl dX9_init_121 nw_X9_13 h1 ?_
      refine C_dup 125 rfl dX9_init_124 rfl ?_
      obtain ⟨w40, h1, h⟩ := zbd h
      obtain ⟨m39, h2, h⟩ := zbd h
      refine C_ctor 128 rfl 3 [zK 0 s.2.1.length, zI s.1, zK 0 q37] dX9_init_125 ci_X9_15 (ctkX8_init (Nat.le_refl 3) h1) (Nat.le_trans (by decide) hd) (Nat.le_of_ble_eq_true rfl) h2 ?_
      obtain ⟨m41, h1, h⟩ := zbd h
      refine C_aast 129 rfl (t := 5) (ci := 8) dX9_init_128 (Or.inr ⟨rfl, rfl⟩) h1 ?_
      refine C_iinc 132 rfl (s.1 + 1) (L' := [some (zK 0 v0), some (zI (s.1 + 1))]) dX9_init_129 rfl rfl (by decide) rfl ?_
      refine C_goto 111 dX9_init_132 (by decide) ?_
      exact kc ((s.1 + 1), m41) (zinj h)
theorem wkX9_init {E : zE} {d : Nat} (hd : 4 ≤ d) (hX2 : ∀ {v0 : Nat} {cs : List zCl} {o : zCm}, kX2_init v0 cs = some o → cCT E yX2_init cX2_init 1 1 38 435 v0 cs (fun m => m.1 = o.1)) {Q : zCm → Prop} {v0 : Nat} {mm o : zCm} (h : kX9_init_b v0 mm = some o) (hQ : ∀ r, o = r → Q r) : CV E RX9 cX9_init 2 d 583 21018 Q 0 [some (zK 0 v0), none] [] mm := by
  unfold kX9_init_b at h
  refine C_aload_n 1 rfl 0 dX9_init_0 rfl rfl ?_
  refine C_obj 4 rfl dX9_init_1 tb_140 tb_141 tb_142 (Nat.le_trans (by decide) hd) (Nat.le_of_ble_eq_true rfl) ?_
  refine C_aload_n 5 rfl 0 dX9_init_4 rfl rfl ?_
  refine C_sipush 8 rfl (v := 400) dX9_init_5 (by decide) ?_
  obtain ⟨m1, h1, h⟩ := zbd h
  refine C_newa 10 rfl (t := 1) dX9_init_8 (by decide) rfl tb_177 (by decide) (by decide) (by decide) h1 ?_
  obtain ⟨m2, h1, h⟩ := zbd h
  refine C_putF 13 rfl dX9_init_10 ff_X9_9 ⟨_, _, rfl⟩ (by decide) (fun _ => rfl) (fun _ => rfl) h1 ?_
  refine C_aload_n 14 rfl 0 dX9_init_13 rfl rfl ?_
  obtain ⟨m3, h1, h⟩ := zbd h
  refine C_new 17 rfl dX9_init_14 nw_X9_13 h1 ?_
  refine C_dup 18 rfl dX9_init_17 rfl ?_
  obtain ⟨w5, h1, h⟩ := zbd h
  obtain ⟨m4, h2, h⟩ := zbd h
  refine C_ctor 21 rfl 3 [zK 0 m2.1.length, zK 0 v0] dX9_init_18 ci_X9_15 (ctkX8_init (Nat.le_refl 3) h1) (Nat.le_trans (by decide) hd) (Nat.le_of_ble_eq_true rfl) h2 ?_
  obtain ⟨m6, h1, h⟩ := zbd h
  refine C_put 24 rfl dX9_init_21 fw_X9_16 ⟨_, _, rfl⟩ (by decide) (fun _ => rfl) (fun _ => rfl) h1 ?_
  refine C_aload_n 25 rfl 0 dX9_init_24 rfl rfl ?_
  obtain ⟨m7, h1, h⟩ := zbd h
  refine C_new 28 rfl dX9_init_25 nw_X9_13 h1 ?_
  refine C_dup 29 rfl dX9_init_28 rfl ?_
  obtain ⟨w9, h1, h⟩ := zbd h
  obtain ⟨m8, h2, h⟩ := zbd h
  refine C_ctor 32 rfl 3 [zK 0 m6.1.length, zK 0 v0] dX9_init_29 ci_X9_15 (ctkX8_init (Nat.le_refl 3) h1) (Nat.le_trans (by decide) hd) (Nat.le_of_ble_eq_true rfl) h2 ?_
  obtain ⟨m10, h1, h⟩ := zbd h
  refine C_put 35 rfl dX9_init_32 fw_X9_20 ⟨_, _, rfl⟩ (by decide) (fun _ => rfl) (fun _ => rfl) h1 ?_
  refine C_aload_n 36 rfl 0 dX9_init_35 rfl rfl ?_
  refine C_iconst 37 rfl (v := 2) dX9_init_36 (by decide) ?_
  obtain ⟨m11, h1, h⟩ := zbd h
  refine C_anew 40 rfl (t := 5) dX9_init_37 (Or.inr ⟨rfl, rfl⟩) tb_143 (by decide) (by decide) (by decide) h1 ?_
  obtain ⟨m12, h1, h⟩ := zbd h
  refine C_putF 43 rfl dX9_init_40 ff_X9_23 ⟨_, _, rfl⟩ (by decide) (fun _ => rfl) (fun _ => rfl) h1 ?_
  refine C_aload_n 44 rfl 0 dX9_init_43 rfl rfl ?_
  obtain ⟨m13, h1, h⟩ := zbd h
  refine C_new 47 rfl dX9_init_44 nw_X9_27 h1 ?_
  refine C_dup 48 rfl dX9_init_47 rfl ?_
  obtain ⟨w15, h1, h⟩ := zbd h
  obtain ⟨m14, h2, h⟩ := zbd h
  refine C_ctor 51 rfl 1 [zK 0 m12.1.length, zK 0 v0] dX9_init_48 ci_X9_29 (ctkX4_init (Nat.le_refl 1) h1) (Nat.le_trans (by decide) hd) (Nat.le_of_ble_eq_true rfl) h2 ?_
  obtain ⟨m16, h1, h⟩ := zbd h
  refine C_putF 54 rfl dX9_init_51 ff_X9_30 ⟨_, _, rfl⟩ (by decide) (fun _ => rfl) (fun _ => rfl) h1 ?_
  refine C_aload_n 55 rfl 0 dX9_init_54 rfl rfl ?_
  obtain ⟨m17, h1, h⟩ := zbd h
  refine C_new 58 rfl dX9_init_55 nw_X9_34 h1 ?_
  refine C_dup 59 rfl dX9_init_58 rfl ?_
  obtain ⟨w19, h1, h⟩ := zbd h
  obtain ⟨m18, h2, h⟩ := zbd h
  refine C_ctor 62 rfl 3 [zK 0 m16.1.length, zK 0 v0] dX9_init_59 ci_X9_36 (ctkX1_init (Nat.le_refl 3) h1) (Nat.le_trans (by decide) hd) (Nat.le_of_ble_eq_true rfl) h2 ?_
  obtain ⟨m20, h1, h⟩ := zbd h
  refine C_putF 65 rfl dX9_init_62 ff_X9_37 ⟨_, _, rfl⟩ (by decide) (fun _ => rfl) (fun _ => rfl) h1 ?_
  refine C_aload_n 66 rfl 0 dX9_init_65 rfl rfl ?_
  obtain ⟨m21, h1, h⟩ := zbd h
  refine C_new 69 rfl dX9_init_66 nw_X9_41 h1 ?_
  refine C_dup 70 rfl dX9_init_69 rfl ?_
  obtain ⟨w23, h1, h⟩ := zbd h
  obtain ⟨m22, h2, h⟩ := zbd h
  refine C_ctor 73 rfl 1 [zK 0 m20.1.length, zK 0 v0] dX9_init_70 ci_X9_43 (ctkX0_init (Nat.le_refl 1) h1) (Nat.le_trans (by decide) hd) (Nat.le_of_ble_eq_true rfl) h2 ?_
  obtain ⟨m24, h1, h⟩ := zbd h
  refine C_putF 76 rfl dX9_init_73 ff_X9_44 ⟨_, _, rfl⟩ (by decide) (fun _ => rfl) (fun _ => rfl) h1 ?_
  refine C_aload_n 77 rfl 0 dX9_init_76 rfl rfl ?_
  obtain ⟨m25, h1, h⟩ := zbd h
  refine C_new 80 rfl dX9_init_77 nw_X9_48 h1 ?_
  refine C_dup 81 rfl dX9_init_80 rfl ?_
  obtain ⟨w27, h1, h⟩ := zbd h
  obtain ⟨m26, h2, h⟩ := zbd h
  refine C_ctor 84 rfl 1 [zK 0 m24.1.length, zK 0 v0] dX9_init_81 ci_X9_50 (hX2 h1) (Nat.le_trans (by decide) hd) (Nat.le_of_ble_eq_true rfl) h2 ?_
  obtain ⟨m28, h1, h⟩ := zbd h
  refine C_putF 87 rfl dX9_init_84 ff_X9_51 ⟨_, _, rfl⟩ (by decide) (fun _ => rfl) (fun _ => rfl) h1 ?_
  refine C_aload_n 88 rfl 0 dX9_init_87 rfl rfl ?_
  obtain ⟨m29, h1, h⟩ := zbd h
  refine C_new 91 rfl dX9_init_88 nw_X9_55 h1 ?_
  refine C_dup 92 rfl dX9_init_91 rfl ?_
  obtain ⟨w31, h1, h⟩ := zbd h
  obtain ⟨m30, h2, h⟩ := zbd h
  refine C_ctor 95 rfl 1 [zK 0 m28.1.length, zK 0 v0] dX9_init_92 ci_X9_57 (ctkX3_init (Nat.le_refl 1) h1) (Nat.le_trans (by decide) hd) (Nat.le_of_ble_eq_true rfl) h2 ?_
  obtain ⟨m32, h1, h⟩ := zbd h
  refine C_putF 98 rfl dX9_init_95 ff_X9_58 ⟨_, _, rfl⟩ (by decide) (fun _ => rfl) (fun _ => rfl) h1 ?_
  refine C_aload_n 99 rfl 0 dX9_init_98 rfl rfl ?_
  obtain ⟨m33, h1, h⟩ := zbd h
  refine C_new 102 rfl dX9_init_99 nw_X9_62 h1 ?_
  refine C_dup 103 rfl dX9_init_102 rfl ?_
  obtain ⟨w35, h1, h⟩ := zbd h
  obtain ⟨m34, h2, h⟩ := zbd h
  refine C_ctor 106 rfl 1 [zK 0 m32.1.length, zK 0 v0] dX9_init_103 ci_X9_64 (ctkX6_init (Nat.le_refl 1) h1) (Nat.le_trans (by decide) hd) (Nat.le_of_ble_eq_true rfl) h2 ?_
  obtain ⟨m36, h1, h⟩ := zbd h
  refine C_putF 109 rfl dX9_init_106 ff_X9_65 ⟨_, _, rfl⟩ (by decide) (fun _ => rfl) (fun _ => rfl) h1 ?_
  refine C_iconst 110 rfl (v := 0) dX9_init_109 (by decide) ?_
  refine C_istore_n 111 rfl 1 (L' := [some (zK 0 v0), some (zI 0)]) dX9_init_110 rfl (by decide) rfl ?_
  obtain ⟨o43, h1, h⟩ := zbd h
  refine wkX9_init_L111 hd hX2 h1 (fun y42 e => ?_)
  have h := zcl_ e h
  obtain ⟨hi, h⟩ := zobd h
  simp only [Bool.and_eq_true, decide_eq_true_eq] at hi
  exact C_vret dX9_init_135 (hQ y42 (zinj h)) hi
theorem ctkX9_init {E : zE} {d : Nat} (hd : 4 ≤ d) (hX2 : ∀ {v0 : Nat} {cs : List zCl} {o : zCm}, kX2_init v0 cs = some o → cCT E yX2_init cX2_init 1 1 38 435 v0 cs (fun m => m.1 = o.1)) {v0 : Nat} {cs : List zCl} {o : zCm} (h : kX9_init v0 cs = some o) : cCT E yX9_init cX9_init 2 d 583 21018 v0 cs (fun m => m.1 = o.1) :=
  cCT_of (by decide) rfl (by decide) rfl (wkX9_init hd hX2 h (fun r e => by rw [e]))
def kX10_init_b (v0 : Nat) (mm : zCm) : Option zCm :=
  (cnar mm 16 25450 0 1357).bind (fun m1 => (cput m1 v0 10 29 0 mm.1.length).bind (fun m2 => (cnar m2 16 25450 0 1357).bind (fun m3 => (cput m3 v0 10 29 1 m2.1.length).bind (fun m4 => (cnar m4 16 25450 0 13570).bind (fun m5 => (cput m5 v0 10 29 2 m4.1.length).bind (fun m6 => (cnar m6 16 25450 0 2714).bind (fun m7 => (cput m7 v0 10 29 3 m6.1.length).bind (fun m8 => (cnar m8 16 25450 2 2).bind (fun m9 => (cput m9 v0 10 29 4 m8.1.length).bind (fun m10 => (cnar m10 16 25450 1 400).bind (fun m11 => (cput m11 v0 10 29 6 m10.1.length).bind (fun m12 => (cnar m12 16 25450 0 1560).bind (fun m13 => (cput m13 v0 10 29 12 m12.1.length).bind (fun m14 => (cnar m14 16 25450 0 144).bind (fun m15 => (cput m15 v0 10 29 13 m14.1.length).bind (fun m16 => (cnar m16 16 25450 0 12).bind (fun m17 => (cput m17 v0 10 29 14 m16.1.length).bind (fun m18 => (cnar m18 16 25450 0 144).bind (fun m19 => (cput m19 v0 10 29 15 m18.1.length).bind (fun m20 => (cnar m20 16 25450 0 12).bind (fun m21 => (cput m21 v0 10 29 16 m20.1.length).bind (fun m22 => (cnar m22 16 25450 0 60).bind (fun m23 => (cput m23 v0 10 29 17 m22.1.length).bind (fun m24 => (cnar m24 16 25450 0 5).bind (fun m25 => (cput m25 v0 10 29 18 m24.1.length).bind (fun m26 => (cnar m26 16 25450 0 5).bind (fun m27 => (cput m27 v0 10 29 19 m26.1.length).bind (fun m28 => (cnar m28 16 25450 0 12).bind (fun m29 => (cput m29 v0 10 29 20 m28.1.length).bind (fun m30 => (cnar m30 16 25450 3 4096).bind (fun m31 => (cput m31 v0 10 29 21 m30.1.length).bind (fun m32 => zob (decide (m32.2.1 ≤ 16) && decide (m32.2.2 ≤ 25450)) (some m32)))))))))))))))))))))))))))))))))
def kX10_init (v0 : Nat) (cs : List zCl) : Option zCm := kX10_init_b v0 (cs, (0, 0))
theorem wkX10_init {E : zE} {d : Nat} (hd : 1 ≤ d) {Q : zCm → Prop} {v0 : Nat} {mm o : zCm} (h : kX10_init_b v0 mm = some o) (hQ : ∀ r, o = r → Q r) : CV E RX10 cX10_init 1 d 16 25450 Q 0 [some (zK 0 v0)] [] mm := by
  unfold kX10_init_b at h
  refine C_aload_n 1 rfl 0 dX10_init_0 rfl rfl ?_
  refine C_obj 4 rfl dX10_init_1 tb_1095 tb_141 tb_142 (Nat.le_trans (by decide) hd) (Nat.le_of_ble_eq_true rfl) ?_
  refine C_aload_n 5 rfl 0 dX10_init_4 rfl rfl ?_
  refine C_sipush 8 rfl (v := 1357) dX10_init_5 (by decide) ?_
  obtain ⟨m1, h1, h⟩ := zbd h
  refine C_newa 10 rfl (t := 0) dX10_init_8 (by decide) rfl tb_178 (by decide) (by decide) (by decide) h1 ?_
  obtain ⟨m2, h1, h⟩ := zbd h
  refine C_putF 13 rfl dX10_init_10 ff_X10_11 ⟨_, _, rfl⟩ (by decide) (fun _ => rfl) (fun _ => rfl) h1 ?_
  refine C_aload_n 14 rfl 0 dX10_init_13 rfl rfl ?_
  refine C_sipush 17 rfl (v := 1357) dX10_init_14 (by decide) ?_
  obtain ⟨m3, h1, h⟩ := zbd h
  refine C_newa 19 rfl (t := 0) dX10_init_17 (by decide) rfl tb_178 (by decide) (by decide) (by decide) h1 ?_
  obtain ⟨m4, h1, h⟩ := zbd h
  refine C_putF 22 rfl dX10_init_19 ff_X10_15 ⟨_, _, rfl⟩ (by decide) (fun _ => rfl) (fun _ => rfl) h1 ?_
  refine C_aload_n 23 rfl 0 dX10_init_22 rfl rfl ?_
  refine C_sipush 26 rfl (v := 13570) dX10_init_23 (by decide) ?_
  obtain ⟨m5, h1, h⟩ := zbd h
  refine C_newa 28 rfl (t := 0) dX10_init_26 (by decide) rfl tb_178 (by decide) (by decide) (by decide) h1 ?_
  obtain ⟨m6, h1, h⟩ := zbd h
  refine C_putF 31 rfl dX10_init_28 ff_X10_18 ⟨_, _, rfl⟩ (by decide) (fun _ => rfl) (fun _ => rfl) h1 ?_
  refine C_aload_n 32 rfl 0 dX10_init_31 rfl rfl ?_
  refine C_sipush 35 rfl (v := 2714) dX10_init_32 (by decide) ?_
  obtain ⟨m7, h1, h⟩ := zbd h
  refine C_newa 37 rfl (t := 0) dX10_init_35 (by decide) rfl tb_178 (by decide) (by decide) (by decide) h1 ?_
  obtain ⟨m8, h1, h⟩ := zbd h
  refine C_putF 40 rfl dX10_init_37 ff_X10_21 ⟨_, _, rfl⟩ (by decide) (fun _ => rfl) (fun _ => rfl) h1 ?_
  refine C_aload_n 41 rfl 0 dX10_init_40 rfl rfl ?_
  refine C_iconst 42 rfl (v := 2) dX10_init_41 (by decide) ?_
  obtain ⟨m9, h1, h⟩ := zbd h
  refine C_newa 44 rfl (t := 2) dX10_init_42 (by decide) rfl tb_1184 (by decide) (by decide) (by decide) h1 ?_
  obtain ⟨m10, h1, h⟩ := zbd h
  refine C_putF 47 rfl dX10_init_44 ff_X10_24 ⟨_, _, rfl⟩ (by decide) (fun _ => rfl) (fun _ => rfl) h1 ?_
  refine C_aload_n 48 rfl 0 dX10_init_47 rfl rfl ?_
  refine C_sipush 51 rfl (v := 400) dX10_init_48 (by decide) ?_
  obtain ⟨m11, h1, h⟩ := zbd h
  refine C_newa 53 rfl (t := 1) dX10_init_51 (by decide) rfl tb_177 (by decide) (by decide) (by decide) h1 ?_
  obtain ⟨m12, h1, h⟩ := zbd h
  refine C_putF 56 rfl dX10_init_53 ff_X10_28 ⟨_, _, rfl⟩ (by decide) (fun _ => rfl) (fun _ => rfl) h1 ?_
  refine C_aload_n 57 rfl 0 dX10_init_56 rfl rfl ?_
  refine C_sipush 60 rfl (v := 1560) dX10_init_57 (by decide) ?_
  obtain ⟨m13, h1, h⟩ := zbd h
  refine C_newa 62 rfl (t := 0) dX10_init_60 (by decide) rfl tb_178 (by decide) (by decide) (by decide) h1 ?_
  obtain ⟨m14, h1, h⟩ := zbd h
  refine C_putF 65 rfl dX10_init_62 ff_X10_32 ⟨_, _, rfl⟩ (by decide) (fun _ => rfl) (fun _ => rfl) h1 ?_
  refine C_aload_n 66 rfl 0 dX10_init_65 rfl rfl ?_
  refine C_sipush 69 rfl (v := 144) dX10_init_66 (by decide) ?_
  obtain ⟨m15, h1, h⟩ := zbd h
  refine C_newa 71 rfl (t := 0) dX10_init_69 (by decide) rfl tb_178 (by decide) (by decide) (by decide) h1 ?_
  obtain ⟨m16, h1, h⟩ := zbd h
  refine C_putF 74 rfl dX10_init_71 ff_X10_35 ⟨_, _, rfl⟩ (by decide) (fun _ => rfl) (fun _ => rfl) h1 ?_
  refine C_aload_n 75 rfl 0 dX10_init_74 rfl rfl ?_
  refine C_bipush 77 rfl (v := 12) dX10_init_75 (by decide) ?_
  obtain ⟨m17, h1, h⟩ := zbd h
  refine C_newa 79 rfl (t := 0) dX10_init_77 (by decide) rfl tb_178 (by decide) (by decide) (by decide) h1 ?_
  obtain ⟨m18, h1, h⟩ := zbd h
  refine C_putF 82 rfl dX10_init_79 ff_X10_38 ⟨_, _, rfl⟩ (by decide) (fun _ => rfl) (fun _ => rfl) h1 ?_
  refine C_aload_n 83 rfl 0 dX10_init_82 rfl rfl ?_
  refine C_sipush 86 rfl (v := 144) dX10_init_83 (by decide) ?_
  obtain ⟨m19, h1, h⟩ := zbd h
  refine C_newa 88 rfl (t := 0) dX10_init_86 (by decide) rfl tb_178 (by decide) (by decide) (by decide) h1 ?_
  obtain ⟨m20, h1, h⟩ := zbd h
  refine C_putF 91 rfl dX10_init_88 ff_X10_41 ⟨_, _, rfl⟩ (by decide) (fun _ => rfl) (fun _ => rfl) h1 ?_
  refine C_aload_n 92 rfl 0 dX10_init_91 rfl rfl ?_
  refine C_bipush 94 rfl (v := 12) dX10_init_92 (by decide) ?_
  obtain ⟨m21, h1, h⟩ := zbd h
  refine C_newa 96 rfl (t := 0) dX10_init_94 (by decide) rfl tb_178 (by decide) (by decide) (by decide) h1 ?_
  obtain ⟨m22, h1, h⟩ := zbd h
  refine C_putF 99 rfl dX10_init_96 ff_X10_44 ⟨_, _, rfl⟩ (by decide) (fun _ => rfl) (fun _ => rfl) h1 ?_
  refine C_aload_n 100 rfl 0 dX10_init_99 rfl rfl ?_
  refine C_bipush 102 rfl (v := 60) dX10_init_100 (by decide) ?_
  obtain ⟨m23, h1, h⟩ := zbd h
  refine C_newa 104 rfl (t := 0) dX10_init_102 (by decide) rfl tb_178 (by decide) (by decide) (by decide) h1 ?_
  obtain ⟨m24, h1, h⟩ := zbd h
  refine C_putF 107 rfl dX10_init_104 ff_X10_47 ⟨_, _, rfl⟩ (by decide) (fun _ => rfl) (fun _ => rfl) h1 ?_
  refine C_aload_n 108 rfl 0 dX10_init_107 rfl rfl ?_
  refine C_iconst 109 rfl (v := 5) dX10_init_108 (by decide) ?_
  obtain ⟨m25, h1, h⟩ := zbd h
  refine C_newa 111 rfl (t := 0) dX10_init_109 (by decide) rfl tb_178 (by decide) (by decide) (by decide) h1 ?_
  obtain ⟨m26, h1, h⟩ := zbd h
  refine C_putF 114 rfl dX10_init_111 ff_X10_50 ⟨_, _, rfl⟩ (by decide) (fun _ => rfl) (fun _ => rfl) h1 ?_
  refine C_aload_n 115 rfl 0 dX10_init_114 rfl rfl ?_
  refine C_iconst 116 rfl (v := 5) dX10_init_115 (by decide) ?_
  obtain ⟨m27, h1, h⟩ := zbd h
  refine C_newa 118 rfl (t := 0) dX10_init_116 (by decide) rfl tb_178 (by decide) (by decide) (by decide) h1 ?_
  obtain ⟨m28, h1, h⟩ := zbd h
  refine C_putF 121 rfl dX10_init_118 ff_X10_53 ⟨_, _, rfl⟩ (by decide) (fun _ => rfl) (fun _ => rfl) h1 ?_
  refine C_aload_n 122 rfl 0 dX10_init_121 rfl rfl ?_
  refine C_bipush 124 rfl (v := 12) dX10_init_122 (by decide) ?_
  obtain ⟨m29, h1, h⟩ := zbd h
  refine C_newa 126 rfl (t := 0) dX10_init_124 (by decide) rfl tb_178 (by decide) (by decide) (by decide) h1 ?_
  obtain ⟨m30, h1, h⟩ := zbd h
  refine C_putF 129 rfl dX10_init_126 ff_X10_56 ⟨_, _, rfl⟩ (by decide) (fun _ => rfl) (fun _ => rfl) h1 ?_
  refine C_aload_n 130 rfl 0 dX10_init_129 rfl rfl ?_
  refine C_sipush 133 rfl (v := 4096) dX10_init_130 (by decide) ?_
  obtain ⟨m31, h1, h⟩ := zbd h
  refine C_newa 135 rfl (t := 3) dX10_init_133 (by decide) rfl tb_1185 (by decide) (by decide) (by decide) h1 ?_
  obtain ⟨m32, h1, h⟩ := zbd h
  refine C_putF 138 rfl dX10_init_135 ff_X10_59 ⟨_, _, rfl⟩ (by decide) (fun _ => rfl) (fun _ => rfl) h1 ?_
  obtain ⟨hi, h⟩ := zobd h
  simp only [Bool.and_eq_true, decide_eq_true_eq] at hi
  exact C_vret dX10_init_138 (hQ m32 (zinj h)) hi
theorem ctkX10_init {E : zE} {d : Nat} (hd : 1 ≤ d) {v0 : Nat} {cs : List zCl} {o : zCm} (h : kX10_init v0 cs = some o) : cCT E yX10_init cX10_init 1 d 16 25450 v0 cs (fun m => m.1 = o.1) :=
  cCT_of (by decide) rfl (by decide) rfl (wkX10_init hd h (fun r e => by rw [e]))
