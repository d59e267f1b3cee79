def RJxe99ae : String := "java/lang/Double"
abbrev cJxe99ae_isNaN_b9ae7 : ByteArray := prog_13_method_6_code
def yJxe99ae_isNaN_b9ae7 : MethodName := ⟨RJxe99ae, "isNaN", "(D)Z"⟩
abbrev cJxe99ae_doubleToLongBits_ccdee : ByteArray := prog_13_method_23_code
def yJxe99ae_doubleToLongBits_ccdee : MethodName := ⟨RJxe99ae, "doubleToLongBits", "(D)J"⟩
theorem dJxe99ae_isNaN_b9ae7_0 : decode cJxe99ae_isNaN_b9ae7 0 = .ok (.dload_n 0, 1) := by decide +kernel
theorem dJxe99ae_isNaN_b9ae7_1 : decode cJxe99ae_isNaN_b9ae7 1 = .ok (.dload_n 0, 1) := by decide +kernel
theorem dJxe99ae_isNaN_b9ae7_2 : decode cJxe99ae_isNaN_b9ae7 2 = .ok (.dcmp .l, 1) := by decide +kernel
theorem dJxe99ae_isNaN_b9ae7_3 : decode cJxe99ae_isNaN_b9ae7 3 = .ok (.ifCond .eq 7, 3) := by decide +kernel
theorem dJxe99ae_isNaN_b9ae7_6 : decode cJxe99ae_isNaN_b9ae7 6 = .ok (.iconst 1, 1) := by decide +kernel
theorem dJxe99ae_isNaN_b9ae7_7 : decode cJxe99ae_isNaN_b9ae7 7 = .ok (.goto 4, 3) := by decide +kernel
theorem dJxe99ae_isNaN_b9ae7_10 : decode cJxe99ae_isNaN_b9ae7 10 = .ok (.iconst 0, 1) := by decide +kernel
theorem dJxe99ae_isNaN_b9ae7_11 : decode cJxe99ae_isNaN_b9ae7 11 = .ok (.ireturn, 1) := by decide +kernel
theorem dJxe99ae_doubleToLongBits_ccdee_0 : decode cJxe99ae_doubleToLongBits_ccdee 0 = .ok (.dload_n 0, 1) := by decide +kernel
theorem dJxe99ae_doubleToLongBits_ccdee_1 : decode cJxe99ae_doubleToLongBits_ccdee 1 = .ok (.invokestatic 122, 3) := by decide +kernel
theorem dJxe99ae_doubleToLongBits_ccdee_4 : decode cJxe99ae_doubleToLongBits_ccdee 4 = .ok (.ifCond .ne 8, 3) := by decide +kernel
theorem dJxe99ae_doubleToLongBits_ccdee_7 : decode cJxe99ae_doubleToLongBits_ccdee 7 = .ok (.dload_n 0, 1) := by decide +kernel
theorem dJxe99ae_doubleToLongBits_ccdee_8 : decode cJxe99ae_doubleToLongBits_ccdee 8 = .ok (.invokestatic 134, 3) := by decide +kernel
theorem dJxe99ae_doubleToLongBits_ccdee_11 : decode cJxe99ae_doubleToLongBits_ccdee 11 = .ok (.lreturn, 1) := by decide +kernel
theorem dJxe99ae_doubleToLongBits_ccdee_12 : decode cJxe99ae_doubleToLongBits_ccdee 12 = .ok (.ldc2_w 137, 3) := by decide +kernel
theorem dJxe99ae_doubleToLongBits_ccdee_15 : decode cJxe99ae_doubleToLongBits_ccdee 15 = .ok (.lreturn, 1) := by decide +kernel
theorem tb_421 : Cond.fieldLink RX9 69 "TraitLines" "tapeLength" "I" ∈ zTB := zmem (i := 421) (by decide +kernel) rfl
theorem uw_9 : ∀ w ∈ u_ws RX9 TX9 13, w ∈ zTB := by decide +kernel
theorem fl_X9_69 : zFL RX9 69 9 1 := ⟨RX9, TX9, 13, rfl, uw_9, by decide, rfl, tb_421⟩
theorem tb_420 : Cond.fieldLink RX9 9 "TraitLines" "tape" "[B" ∈ zTB := zmem (i := 420) (by decide +kernel) rfl
theorem fl_X9_9 : zFL RX9 9 9 0 := ⟨RX9, TX9, 13, rfl, uw_9, by decide, rfl, tb_420⟩
theorem fw_X9_69 : zFW RX9 69 9 1 .int := ⟨RX9, TX9, 13, tyX9, rfl, uw_9, by decide, rfl, tb_421, tyX9_ok, nmX9, rfl, by decide +kernel⟩
set_option maxRecDepth 20000 in
theorem tb_467 : Cond.code yX9_putBytes cX9_putBytes 3 none ∈ zTB := zmem (i := 467) rfl rfl
theorem tb_114 : Cond.initialized RX9 ∈ zTB := zmem (i := 114) (by decide +kernel) rfl
theorem tb_464 : Cond.methodLink RX9 73 yX9_putBytes ∈ zTB := zmem (i := 464) (by decide +kernel) rfl
theorem tb_466 : Cond.instanceMethod yX9_putBytes ∈ zTB := zmem (i := 466) (by decide +kernel) rfl
theorem tb_0 : Cond.selects yX9_putBytes.cls yX9_putBytes yX9_putBytes ∈ zTB := zmem (i := 0) (by decide +kernel) rfl
theorem cv_X9_73 : zCV RX9 73 yX9_putBytes cX9_putBytes 3 none 1 9 := ⟨⟨tb_467, tb_114, tb_464, ⟨by decide, by decide, by decide +kernel⟩, by decide⟩, tb_466, tb_0, TX9, 13, rfl⟩
theorem tb_1103 : Cond.fieldLink RX10 63 "TraitLinesModel" "taped" "I" ∈ zTB := zmem (i := 1103) (by decide +kernel) rfl
theorem uw_10 : ∀ w ∈ u_ws RX10 TX10 29, w ∈ zTB := by decide +kernel
theorem fl_X10_63 : zFL RX10 63 10 7 := ⟨RX10, TX10, 29, rfl, uw_10, by decide, rfl, tb_1103⟩
theorem tb_1102 : Cond.fieldLink RX10 28 "TraitLinesModel" "tape" "[B" ∈ zTB := zmem (i := 1102) (by decide +kernel) rfl
theorem fl_X10_28 : zFL RX10 28 10 6 := ⟨RX10, TX10, 29, rfl, uw_10, by decide, rfl, tb_1102⟩
theorem fw_X10_63 : zFW RX10 63 10 7 .int := ⟨RX10, TX10, 29, tyX10, rfl, uw_10, by decide, rfl, tb_1103, tyX10_ok, nmX10, rfl, by decide +kernel⟩
set_option maxRecDepth 20000 in
theorem tb_1193 : Cond.code yX10_puts cX10_puts 3 none ∈ zTB := zmem (i := 1193) rfl rfl
theorem tb_124 : Cond.initialized RX10 ∈ zTB := zmem (i := 124) (by decide +kernel) rfl
theorem tb_1190 : Cond.methodLink RX10 67 yX10_puts ∈ zTB := zmem (i := 1190) (by decide +kernel) rfl
theorem tb_1192 : Cond.instanceMethod yX10_puts ∈ zTB := zmem (i := 1192) (by decide +kernel) rfl
theorem tb_50 : Cond.selects yX10_puts.cls yX10_puts yX10_puts ∈ zTB := zmem (i := 50) (by decide +kernel) rfl
theorem cv_X10_67 : zCV RX10 67 yX10_puts cX10_puts 3 none 1 10 := ⟨⟨tb_1193, tb_124, tb_1190, ⟨by decide, by decide, by decide +kernel⟩, by decide⟩, tb_1192, tb_50, TX10, 29, rfl⟩
theorem tb_426 : Cond.fieldLink RX9 30 "TraitLines" "reader" "LTraitLines$Reader;" ∈ zTB := zmem (i := 426) (by decide +kernel) rfl
theorem fl_X9_30 : zFL RX9 30 9 6 := ⟨RX9, TX9, 13, rfl, uw_9, by decide, rfl, tb_426⟩
theorem tb_423 : Cond.fieldLink RX9 20 "TraitLines" "draft" "LTraitLines$World;" ∈ zTB := zmem (i := 423) (by decide +kernel) rfl
theorem fl_X9_20 : zFL RX9 20 9 3 := ⟨RX9, TX9, 13, rfl, uw_9, by decide, rfl, tb_423⟩
theorem tb_248 : Cond.fieldLink RX4 9 "TraitLines$Reader" "tape" "[B" ∈ zTB := zmem (i := 248) (by decide +kernel) rfl
theorem uw_4 : ∀ w ∈ u_ws RX4 TX4 8, w ∈ zTB := by decide +kernel
theorem fw_X4_9 : zFW RX4 9 4 0 (.array .byte) := ⟨RX4, TX4, 8, tyX4, rfl, uw_4, by decide, rfl, tb_248, tyX4_ok, nmX4, rfl, by decide +kernel⟩
theorem fl_X4_9 : zFL RX4 9 4 0 := ⟨RX4, TX4, 8, rfl, uw_4, by decide, rfl, tb_248⟩
theorem tb_249 : Cond.fieldLink RX4 21 "TraitLines$Reader" "length" "I" ∈ zTB := zmem (i := 249) (by decide +kernel) rfl
theorem fw_X4_21 : zFW RX4 21 4 1 .int := ⟨RX4, TX4, 8, tyX4, rfl, uw_4, by decide, rfl, tb_249, tyX4_ok, nmX4, rfl, by decide +kernel⟩
theorem tb_255 : Cond.fieldLink RX4 25 "TraitLines$Reader" "told" "LTraitLines$World;" ∈ zTB := zmem (i := 255) (by decide +kernel) rfl
theorem fw_X4_25 : zFW RX4 25 4 7 (.object "TraitLines$World") := ⟨RX4, TX4, 8, tyX4, rfl, uw_4, by decide, rfl, tb_255, tyX4_ok, nmX4, rfl, by decide +kernel⟩
theorem fl_X4_25 : zFL RX4 25 4 7 := ⟨RX4, TX4, 8, rfl, uw_4, by decide, rfl, tb_255⟩
theorem tb_234 : Cond.fieldLink RX4 29 "TraitLines$World" "size" "I" ∈ zTB := zmem (i := 234) (by decide +kernel) rfl
theorem uw_8 : ∀ w ∈ u_ws RX8 TX8 2, w ∈ zTB := by decide +kernel
theorem fw_X4_29 : zFW RX4 29 8 1 .int := ⟨RX8, TX8, 2, tyX8, rfl, uw_8, by decide, rfl, tb_234, tyX8_ok, nmX8, rfl, by decide +kernel⟩
theorem tb_253 : Cond.fieldLink RX4 34 "TraitLines$Reader" "fault" "I" ∈ zTB := zmem (i := 253) (by decide +kernel) rfl
theorem fw_X4_34 : zFW RX4 34 4 5 .int := ⟨RX4, TX4, 8, tyX4, rfl, uw_4, by decide, rfl, tb_253, tyX4_ok, nmX4, rfl, by decide +kernel⟩
theorem tb_251 : Cond.fieldLink RX4 37 "TraitLines$Reader" "behind" "I" ∈ zTB := zmem (i := 251) (by decide +kernel) rfl
theorem fw_X4_37 : zFW RX4 37 4 3 .int := ⟨RX4, TX4, 8, tyX4, rfl, uw_4, by decide, rfl, tb_251, tyX4_ok, nmX4, rfl, by decide +kernel⟩
theorem fl_X4_37 : zFL RX4 37 4 3 := ⟨RX4, TX4, 8, rfl, uw_4, by decide, rfl, tb_251⟩
theorem tb_250 : Cond.fieldLink RX4 43 "TraitLines$Reader" "at" "I" ∈ zTB := zmem (i := 250) (by decide +kernel) rfl
theorem fw_X4_43 : zFW RX4 43 4 2 .int := ⟨RX4, TX4, 8, tyX4, rfl, uw_4, by decide, rfl, tb_250, tyX4_ok, nmX4, rfl, by decide +kernel⟩
theorem fl_X4_43 : zFL RX4 43 4 2 := ⟨RX4, TX4, 8, rfl, uw_4, by decide, rfl, tb_250⟩
theorem fl_X4_21 : zFL RX4 21 4 1 := ⟨RX4, TX4, 8, rfl, uw_4, by decide, rfl, tb_249⟩
theorem tb_252 : Cond.fieldLink RX4 53 "TraitLines$Reader" "sign" "I" ∈ zTB := zmem (i := 252) (by decide +kernel) rfl
theorem fw_X4_53 : zFW RX4 53 4 4 .int := ⟨RX4, TX4, 8, tyX4, rfl, uw_4, by decide, rfl, tb_252, tyX4_ok, nmX4, rfl, by decide +kernel⟩
theorem fl_X4_53 : zFL RX4 53 4 4 := ⟨RX4, TX4, 8, rfl, uw_4, by decide, rfl, tb_252⟩
theorem tb_506 : Cond.methodLink RX4 177 yJ0_charAt_5068e ∈ zTB := zmem (i := 506) (by decide +kernel) rfl
theorem tb_496 : Cond.methodLink RX4 173 yJ0_length_8abf5 ∈ zTB := zmem (i := 496) (by decide +kernel) rfl
theorem fl_X4_29 : zFL RX4 29 8 1 := ⟨RX8, TX8, 2, rfl, uw_8, by decide, rfl, tb_234⟩
theorem tb_231 : Cond.fieldLink RX8 18 "TraitLines$World" "size" "I" ∈ zTB := zmem (i := 231) (by decide +kernel) rfl
theorem fl_X8_18 : zFL RX8 18 8 1 := ⟨RX8, TX8, 2, rfl, uw_8, by decide, rfl, tb_231⟩
theorem tb_222 : Cond.fieldLink RX8 11 "TraitLines$World" "units" "[LTraitLines$Unit;" ∈ zTB := zmem (i := 222) (by decide +kernel) rfl
theorem fl_X8_11 : zFL RX8 11 8 0 := ⟨RX8, TX8, 2, rfl, uw_8, by decide, rfl, tb_222⟩
theorem tb_183 : Cond.fieldLink RX8 30 "TraitLines$Unit" "name" "I" ∈ zTB := zmem (i := 183) (by decide +kernel) rfl
theorem uw_7 : ∀ w ∈ u_ws RX7 TX7 9, w ∈ zTB := by decide +kernel
theorem fl_X8_30 : zFL RX8 30 7 1 := ⟨RX7, TX7, 9, rfl, uw_7, by decide, rfl, tb_183⟩
theorem tb_228 : Cond.fieldLink RX4 76 "TraitLines$World" "units" "[LTraitLines$Unit;" ∈ zTB := zmem (i := 228) (by decide +kernel) rfl
theorem fl_X4_76 : zFL RX4 76 8 0 := ⟨RX8, TX8, 2, rfl, uw_8, by decide, rfl, tb_228⟩
theorem tb_179 : Cond.fieldLink RX7 34 "TraitLines$Unit" "trait" "Z" ∈ zTB := zmem (i := 179) (by decide +kernel) rfl
theorem fw_X7_34 : zFW RX7 34 7 0 .boolean := ⟨RX7, TX7, 9, tyX7, rfl, uw_7, by decide, rfl, tb_179, tyX7_ok, nmX7, rfl, by decide +kernel⟩
theorem tb_182 : Cond.fieldLink RX7 38 "TraitLines$Unit" "name" "I" ∈ zTB := zmem (i := 182) (by decide +kernel) rfl
theorem fw_X7_38 : zFW RX7 38 7 1 .int := ⟨RX7, TX7, 9, tyX7, rfl, uw_7, by decide, rfl, tb_182, tyX7_ok, nmX7, rfl, by decide +kernel⟩
theorem tb_185 : Cond.fieldLink RX7 42 "TraitLines$Unit" "members" "I" ∈ zTB := zmem (i := 185) (by decide +kernel) rfl
theorem fw_X7_42 : zFW RX7 42 7 2 .int := ⟨RX7, TX7, 9, tyX7, rfl, uw_7, by decide, rfl, tb_185, tyX7_ok, nmX7, rfl, by decide +kernel⟩
theorem tb_187 : Cond.fieldLink RX7 12 "TraitLines$Unit" "parents" "LTraitLines$Row;" ∈ zTB := zmem (i := 187) (by decide +kernel) rfl
theorem fl_X7_12 : zFL RX7 12 7 3 := ⟨RX7, TX7, 9, rfl, uw_7, by decide, rfl, tb_187⟩
theorem tb_166 : Cond.fieldLink RX7 45 "TraitLines$Row" "size" "I" ∈ zTB := zmem (i := 166) (by decide +kernel) rfl
theorem uw_5 : ∀ w ∈ u_ws RX5 TX5 2, w ∈ zTB := by decide +kernel
theorem fw_X7_45 : zFW RX7 45 5 1 .int := ⟨RX5, TX5, 2, tyX5, rfl, uw_5, by decide, rfl, tb_166, tyX5_ok, nmX5, rfl, by decide +kernel⟩
theorem tb_192 : Cond.fieldLink RX7 18 "TraitLines$Unit" "traits" "LTraitLines$Row;" ∈ zTB := zmem (i := 192) (by decide +kernel) rfl
theorem fl_X7_18 : zFL RX7 18 7 4 := ⟨RX7, TX7, 9, rfl, uw_7, by decide, rfl, tb_192⟩
theorem tb_198 : Cond.fieldLink RX7 25 "TraitLines$Unit" "termCounts" "[I" ∈ zTB := zmem (i := 198) (by decide +kernel) rfl
theorem fl_X7_25 : zFL RX7 25 7 6 := ⟨RX7, TX7, 9, rfl, uw_7, by decide, rfl, tb_198⟩
set_option maxRecDepth 20000 in
theorem tb_563 : Cond.code yJ7_fill_53178 cJ7_fill_53178 4 none ∈ zTB := zmem (i := 563) rfl rfl
theorem tb_130 : Cond.initialized RJ7 ∈ zTB := zmem (i := 130) (by decide +kernel) rfl
theorem tb_561 : Cond.methodLink RX7 48 yJ7_fill_53178 ∈ zTB := zmem (i := 561) (by decide +kernel) rfl
theorem tb_562 : Cond.static yJ7_fill_53178 ∈ zTB := zmem (i := 562) (by decide +kernel) rfl
theorem cs_X7_48 : zCS RX7 48 yJ7_fill_53178 cJ7_fill_53178 4 none 2 := ⟨⟨tb_563, tb_130, tb_561, ⟨by decide, by decide, by decide +kernel⟩, by decide⟩, tb_562⟩
theorem fl_X7_42 : zFL RX7 42 7 2 := ⟨RX7, TX7, 9, rfl, uw_7, by decide, rfl, tb_185⟩
set_option maxRecDepth 20000 in
theorem tb_629 : Cond.code yX7_tells cX7_tells 2 (some .boolean) ∈ zTB := zmem (i := 629) rfl rfl
theorem tb_116 : Cond.initialized RX7 ∈ zTB := zmem (i := 116) (by decide +kernel) rfl
theorem tb_634 : Cond.methodLink RX7 54 yX7_tells ∈ zTB := zmem (i := 634) (by decide +kernel) rfl
theorem tb_627 : Cond.instanceMethod yX7_tells ∈ zTB := zmem (i := 627) (by decide +kernel) rfl
theorem tb_628 : Cond.selects yX7_tells.cls yX7_tells yX7_tells ∈ zTB := zmem (i := 628) (by decide +kernel) rfl
theorem cv_X7_54 : zCV RX7 54 yX7_tells cX7_tells 2 (some .boolean) 1 7 := ⟨⟨tb_629, tb_116, tb_634, ⟨by decide, by decide, by decide +kernel⟩, by decide⟩, tb_627, tb_628, TX7, 9, rfl⟩
set_option maxRecDepth 20000 in
theorem tb_614 : Cond.code yX4_memberHere cX4_memberHere 1 (some .int) ∈ zTB := zmem (i := 614) rfl rfl
theorem tb_118 : Cond.initialized RX4 ∈ zTB := zmem (i := 118) (by decide +kernel) rfl
theorem tb_611 : Cond.methodLink RX4 141 yX4_memberHere ∈ zTB := zmem (i := 611) (by decide +kernel) rfl
theorem tb_613 : Cond.instanceMethod yX4_memberHere ∈ zTB := zmem (i := 613) (by decide +kernel) rfl
theorem tb_11 : Cond.selects yX4_memberHere.cls yX4_memberHere yX4_memberHere ∈ zTB := zmem (i := 11) (by decide +kernel) rfl
theorem cv_X4_141 : zCV RX4 141 yX4_memberHere cX4_memberHere 1 (some .int) 0 4 := ⟨⟨tb_614, tb_118, tb_611, ⟨by decide, by decide, by decide +kernel⟩, by decide⟩, tb_613, tb_11, TX4, 8, rfl⟩
set_option maxRecDepth 20000 in
theorem tb_495 : Cond.code yX4_isWord cX4_isWord 3 (some .boolean) ∈ zTB := zmem (i := 495) rfl rfl
theorem tb_492 : Cond.methodLink RX4 62 yX4_isWord ∈ zTB := zmem (i := 492) (by decide +kernel) rfl
theorem tb_494 : Cond.instanceMethod yX4_isWord ∈ zTB := zmem (i := 494) (by decide +kernel) rfl
theorem tb_3 : Cond.selects yX4_isWord.cls yX4_isWord yX4_isWord ∈ zTB := zmem (i := 3) (by decide +kernel) rfl
theorem cv_X4_62 : zCV RX4 62 yX4_isWord cX4_isWord 3 (some .boolean) 1 4 := ⟨⟨tb_495, tb_118, tb_492, ⟨by decide, by decide, by decide +kernel⟩, by decide⟩, tb_494, tb_3, TX4, 8, rfl⟩
set_option maxRecDepth 20000 in
theorem tb_646 : Cond.code yX4_numberHere cX4_numberHere 3 (some .int) ∈ zTB := zmem (i := 646) rfl rfl
theorem tb_643 : Cond.methodLink RX4 168 yX4_numberHere ∈ zTB := zmem (i := 643) (by decide +kernel) rfl
theorem tb_645 : Cond.instanceMethod yX4_numberHere ∈ zTB := zmem (i := 645) (by decide +kernel) rfl
theorem tb_15 : Cond.selects yX4_numberHere.cls yX4_numberHere yX4_numberHere ∈ zTB := zmem (i := 15) (by decide +kernel) rfl
theorem cv_X4_168 : zCV RX4 168 yX4_numberHere cX4_numberHere 3 (some .int) 0 4 := ⟨⟨tb_646, tb_118, tb_643, ⟨by decide, by decide, by decide +kernel⟩, by decide⟩, tb_645, tb_15, TX4, 8, rfl⟩
theorem tb_201 : Cond.fieldLink RX7 28 "TraitLines$Unit" "terms" "[I" ∈ zTB := zmem (i := 201) (by decide +kernel) rfl
theorem fl_X7_28 : zFL RX7 28 7 7 := ⟨RX7, TX7, 9, rfl, uw_7, by decide, rfl, tb_201⟩
set_option maxRecDepth 20000 in
theorem tb_486 : Cond.code yX4_pass cX4_pass 4 none ∈ zTB := zmem (i := 486) rfl rfl
theorem tb_483 : Cond.methodLink RX4 40 yX4_pass ∈ zTB := zmem (i := 483) (by decide +kernel) rfl
theorem tb_485 : Cond.instanceMethod yX4_pass ∈ zTB := zmem (i := 485) (by decide +kernel) rfl
theorem tb_1 : Cond.selects yX4_pass.cls yX4_pass yX4_pass ∈ zTB := zmem (i := 1) (by decide +kernel) rfl
theorem cv_X4_40 : zCV RX4 40 yX4_pass cX4_pass 4 none 0 4 := ⟨⟨tb_486, tb_118, tb_483, ⟨by decide, by decide, by decide +kernel⟩, by decide⟩, tb_485, tb_1, TX4, 8, rfl⟩
set_option maxRecDepth 20000 in
theorem tb_651 : Cond.code yX7_addTerm cX7_addTerm 4 none ∈ zTB := zmem (i := 651) rfl rfl
theorem tb_648 : Cond.methodLink RX4 164 yX7_addTerm ∈ zTB := zmem (i := 648) (by decide +kernel) rfl
theorem tb_649 : Cond.instanceMethod yX7_addTerm ∈ zTB := zmem (i := 649) (by decide +kernel) rfl
theorem tb_650 : Cond.selects yX7_addTerm.cls yX7_addTerm yX7_addTerm ∈ zTB := zmem (i := 650) (by decide +kernel) rfl
theorem cv_X4_164 : zCV RX4 164 yX7_addTerm cX7_addTerm 4 none 2 7 := ⟨⟨tb_651, tb_116, tb_648, ⟨by decide, by decide, by decide +kernel⟩, by decide⟩, tb_649, tb_650, TX7, 9, rfl⟩
set_option maxRecDepth 20000 in
theorem tb_548 : Cond.code yX4_refuse cX4_refuse 2 (some .boolean) ∈ zTB := zmem (i := 548) rfl rfl
theorem tb_545 : Cond.methodLink RX4 56 yX4_refuse ∈ zTB := zmem (i := 545) (by decide +kernel) rfl
theorem tb_547 : Cond.instanceMethod yX4_refuse ∈ zTB := zmem (i := 547) (by decide +kernel) rfl
theorem tb_4 : Cond.selects yX4_refuse.cls yX4_refuse yX4_refuse ∈ zTB := zmem (i := 4) (by decide +kernel) rfl
theorem cv_X4_56 : zCV RX4 56 yX4_refuse cX4_refuse 2 (some .boolean) 1 4 := ⟨⟨tb_548, tb_118, tb_545, ⟨by decide, by decide, by decide +kernel⟩, by decide⟩, tb_547, tb_4, TX4, 8, rfl⟩
set_option maxRecDepth 20000 in
theorem tb_642 : Cond.code yX4_termHere cX4_termHere 2 (some .int) ∈ zTB := zmem (i := 642) rfl rfl
theorem tb_639 : Cond.methodLink RX4 161 yX4_termHere ∈ zTB := zmem (i := 639) (by decide +kernel) rfl
theorem tb_641 : Cond.instanceMethod yX4_termHere ∈ zTB := zmem (i := 641) (by decide +kernel) rfl
theorem tb_14 : Cond.selects yX4_termHere.cls yX4_termHere yX4_termHere ∈ zTB := zmem (i := 14) (by decide +kernel) rfl
theorem cv_X4_161 : zCV RX4 161 yX4_termHere cX4_termHere 2 (some .int) 0 4 := ⟨⟨tb_642, tb_118, tb_639, ⟨by decide, by decide, by decide +kernel⟩, by decide⟩, tb_641, tb_14, TX4, 8, rfl⟩
set_option maxRecDepth 20000 in
theorem tb_638 : Cond.code yX4_readTerms cX4_readTerms 5 (some .boolean) ∈ zTB := zmem (i := 638) rfl rfl
theorem tb_635 : Cond.methodLink RX4 158 yX4_readTerms ∈ zTB := zmem (i := 635) (by decide +kernel) rfl
theorem tb_637 : Cond.instanceMethod yX4_readTerms ∈ zTB := zmem (i := 637) (by decide +kernel) rfl
theorem tb_13 : Cond.selects yX4_readTerms.cls yX4_readTerms yX4_readTerms ∈ zTB := zmem (i := 13) (by decide +kernel) rfl
theorem cv_X4_158 : zCV RX4 158 yX4_readTerms cX4_readTerms 5 (some .boolean) 2 4 := ⟨⟨tb_638, tb_118, tb_635, ⟨by decide, by decide, by decide +kernel⟩, by decide⟩, tb_637, tb_13, TX4, 8, rfl⟩
set_option maxRecDepth 20000 in
theorem tb_633 : Cond.code yX7_require cX7_require 2 none ∈ zTB := zmem (i := 633) rfl rfl
theorem tb_630 : Cond.methodLink RX4 155 yX7_require ∈ zTB := zmem (i := 630) (by decide +kernel) rfl
theorem tb_631 : Cond.instanceMethod yX7_require ∈ zTB := zmem (i := 631) (by decide +kernel) rfl
theorem tb_632 : Cond.selects yX7_require.cls yX7_require yX7_require ∈ zTB := zmem (i := 632) (by decide +kernel) rfl
theorem cv_X4_155 : zCV RX4 155 yX7_require cX7_require 2 none 1 7 := ⟨⟨tb_633, tb_116, tb_630, ⟨by decide, by decide, by decide +kernel⟩, by decide⟩, tb_631, tb_632, TX7, 9, rfl⟩
theorem tb_626 : Cond.methodLink RX4 152 yX7_tells ∈ zTB := zmem (i := 626) (by decide +kernel) rfl
theorem cv_X4_152 : zCV RX4 152 yX7_tells cX7_tells 2 (some .boolean) 1 7 := ⟨⟨tb_629, tb_116, tb_626, ⟨by decide, by decide, by decide +kernel⟩, by decide⟩, tb_627, tb_628, TX7, 9, rfl⟩
set_option maxRecDepth 20000 in
theorem tb_625 : Cond.code yX4_readMembers cX4_readMembers 5 (some .boolean) ∈ zTB := zmem (i := 625) rfl rfl
theorem tb_622 : Cond.methodLink RX4 97 yX4_readMembers ∈ zTB := zmem (i := 622) (by decide +kernel) rfl
theorem tb_624 : Cond.instanceMethod yX4_readMembers ∈ zTB := zmem (i := 624) (by decide +kernel) rfl
theorem tb_12 : Cond.selects yX4_readMembers.cls yX4_readMembers yX4_readMembers ∈ zTB := zmem (i := 12) (by decide +kernel) rfl
theorem cv_X4_97 : zCV RX4 97 yX4_readMembers cX4_readMembers 5 (some .boolean) 1 4 := ⟨⟨tb_625, tb_118, tb_622, ⟨by decide, by decide, by decide +kernel⟩, by decide⟩, tb_624, tb_12, TX4, 8, rfl⟩
theorem tb_194 : Cond.fieldLink RX4 114 "TraitLines$Unit" "traits" "LTraitLines$Row;" ∈ zTB := zmem (i := 194) (by decide +kernel) rfl
theorem fl_X4_114 : zFL RX4 114 7 4 := ⟨RX7, TX7, 9, rfl, uw_7, by decide, rfl, tb_194⟩
theorem tb_180 : Cond.fieldLink RX8 26 "TraitLines$Unit" "trait" "Z" ∈ zTB := zmem (i := 180) (by decide +kernel) rfl
theorem fl_X8_26 : zFL RX8 26 7 0 := ⟨RX7, TX7, 9, rfl, uw_7, by decide, rfl, tb_180⟩
set_option maxRecDepth 20000 in
theorem tb_580 : Cond.code yX8_isUnit cX8_isUnit 2 (some .boolean) ∈ zTB := zmem (i := 580) rfl rfl
theorem tb_115 : Cond.initialized RX8 ∈ zTB := zmem (i := 115) (by decide +kernel) rfl
theorem tb_577 : Cond.methodLink RX8 22 yX8_isUnit ∈ zTB := zmem (i := 577) (by decide +kernel) rfl
theorem tb_578 : Cond.instanceMethod yX8_isUnit ∈ zTB := zmem (i := 578) (by decide +kernel) rfl
theorem tb_579 : Cond.selects yX8_isUnit.cls yX8_isUnit yX8_isUnit ∈ zTB := zmem (i := 579) (by decide +kernel) rfl
theorem cv_X8_22 : zCV RX8 22 yX8_isUnit cX8_isUnit 2 (some .boolean) 1 8 := ⟨⟨tb_580, tb_115, tb_577, ⟨by decide, by decide, by decide +kernel⟩, by decide⟩, tb_578, tb_579, TX8, 2, rfl⟩
theorem tb_165 : Cond.fieldLink RX5 15 "TraitLines$Row" "size" "I" ∈ zTB := zmem (i := 165) (by decide +kernel) rfl
theorem fl_X5_15 : zFL RX5 15 5 1 := ⟨RX5, TX5, 2, rfl, uw_5, by decide, rfl, tb_165⟩
theorem tb_162 : Cond.fieldLink RX5 9 "TraitLines$Row" "items" "[I" ∈ zTB := zmem (i := 162) (by decide +kernel) rfl
theorem fl_X5_9 : zFL RX5 9 5 0 := ⟨RX5, TX5, 2, rfl, uw_5, by decide, rfl, tb_162⟩
theorem tb_171 : Cond.fieldLink RX4 133 "TraitLines$Row" "size" "I" ∈ zTB := zmem (i := 171) (by decide +kernel) rfl
theorem fl_X4_133 : zFL RX4 133 5 1 := ⟨RX5, TX5, 2, rfl, uw_5, by decide, rfl, tb_171⟩
set_option maxRecDepth 20000 in
theorem tb_588 : Cond.code yX5_placeOf cX5_placeOf 3 (some .int) ∈ zTB := zmem (i := 588) rfl rfl
theorem tb_117 : Cond.initialized RX5 ∈ zTB := zmem (i := 117) (by decide +kernel) rfl
theorem tb_585 : Cond.methodLink RX4 130 yX5_placeOf ∈ zTB := zmem (i := 585) (by decide +kernel) rfl
theorem tb_586 : Cond.instanceMethod yX5_placeOf ∈ zTB := zmem (i := 586) (by decide +kernel) rfl
theorem tb_587 : Cond.selects yX5_placeOf.cls yX5_placeOf yX5_placeOf ∈ zTB := zmem (i := 587) (by decide +kernel) rfl
theorem cv_X4_130 : zCV RX4 130 yX5_placeOf cX5_placeOf 3 (some .int) 1 5 := ⟨⟨tb_588, tb_117, tb_585, ⟨by decide, by decide, by decide +kernel⟩, by decide⟩, tb_586, tb_587, TX5, 2, rfl⟩
set_option maxRecDepth 20000 in
theorem tb_584 : Cond.code yX8_isType cX8_isType 2 (some .boolean) ∈ zTB := zmem (i := 584) rfl rfl
theorem tb_581 : Cond.methodLink RX4 127 yX8_isType ∈ zTB := zmem (i := 581) (by decide +kernel) rfl
theorem tb_582 : Cond.instanceMethod yX8_isType ∈ zTB := zmem (i := 582) (by decide +kernel) rfl
theorem tb_583 : Cond.selects yX8_isType.cls yX8_isType yX8_isType ∈ zTB := zmem (i := 583) (by decide +kernel) rfl
theorem cv_X4_127 : zCV RX4 127 yX8_isType cX8_isType 2 (some .boolean) 1 8 := ⟨⟨tb_584, tb_115, tb_581, ⟨by decide, by decide, by decide +kernel⟩, by decide⟩, tb_582, tb_583, TX8, 2, rfl⟩
set_option maxRecDepth 20000 in
theorem tb_576 : Cond.code yX8_isTrait cX8_isTrait 2 (some .boolean) ∈ zTB := zmem (i := 576) rfl rfl
theorem tb_573 : Cond.methodLink RX4 124 yX8_isTrait ∈ zTB := zmem (i := 573) (by decide +kernel) rfl
theorem tb_574 : Cond.instanceMethod yX8_isTrait ∈ zTB := zmem (i := 574) (by decide +kernel) rfl
theorem tb_575 : Cond.selects yX8_isTrait.cls yX8_isTrait yX8_isTrait ∈ zTB := zmem (i := 575) (by decide +kernel) rfl
theorem cv_X4_124 : zCV RX4 124 yX8_isTrait cX8_isTrait 2 (some .boolean) 1 8 := ⟨⟨tb_576, tb_115, tb_573, ⟨by decide, by decide, by decide +kernel⟩, by decide⟩, tb_574, tb_575, TX8, 2, rfl⟩
set_option maxRecDepth 20000 in
theorem tb_556 : Cond.code yX8_indexOf cX8_indexOf 3 (some .int) ∈ zTB := zmem (i := 556) rfl rfl
theorem tb_553 : Cond.methodLink RX4 72 yX8_indexOf ∈ zTB := zmem (i := 553) (by decide +kernel) rfl
theorem tb_554 : Cond.instanceMethod yX8_indexOf ∈ zTB := zmem (i := 554) (by decide +kernel) rfl
theorem tb_555 : Cond.selects yX8_indexOf.cls yX8_indexOf yX8_indexOf ∈ zTB := zmem (i := 555) (by decide +kernel) rfl
theorem cv_X4_72 : zCV RX4 72 yX8_indexOf cX8_indexOf 3 (some .int) 1 8 := ⟨⟨tb_556, tb_115, tb_553, ⟨by decide, by decide, by decide +kernel⟩, by decide⟩, tb_554, tb_555, TX8, 2, rfl⟩
set_option maxRecDepth 20000 in
theorem tb_552 : Cond.code yX4_nameHere cX4_nameHere 1 (some .int) ∈ zTB := zmem (i := 552) rfl rfl
theorem tb_549 : Cond.methodLink RX4 68 yX4_nameHere ∈ zTB := zmem (i := 549) (by decide +kernel) rfl
theorem tb_551 : Cond.instanceMethod yX4_nameHere ∈ zTB := zmem (i := 551) (by decide +kernel) rfl
theorem tb_5 : Cond.selects yX4_nameHere.cls yX4_nameHere yX4_nameHere ∈ zTB := zmem (i := 5) (by decide +kernel) rfl
theorem cv_X4_68 : zCV RX4 68 yX4_nameHere cX4_nameHere 1 (some .int) 0 4 := ⟨⟨tb_552, tb_118, tb_549, ⟨by decide, by decide, by decide +kernel⟩, by decide⟩, tb_551, tb_5, TX4, 8, rfl⟩
theorem fl_X7_45 : zFL RX7 45 5 1 := ⟨RX5, TX5, 2, rfl, uw_5, by decide, rfl, tb_166⟩
theorem fw_X5_15 : zFW RX5 15 5 1 .int := ⟨RX5, TX5, 2, tyX5, rfl, uw_5, by decide, rfl, tb_165, tyX5_ok, nmX5, rfl, by decide +kernel⟩
theorem tb_196 : Cond.fieldLink RX7 21 "TraitLines$Unit" "changes" "[I" ∈ zTB := zmem (i := 196) (by decide +kernel) rfl
theorem fl_X7_21 : zFL RX7 21 7 5 := ⟨RX7, TX7, 9, rfl, uw_7, by decide, rfl, tb_196⟩
theorem tb_202 : Cond.fieldLink RX7 31 "TraitLines$Unit" "lettersThere" "[I" ∈ zTB := zmem (i := 202) (by decide +kernel) rfl
theorem fl_X7_31 : zFL RX7 31 7 8 := ⟨RX7, TX7, 9, rfl, uw_7, by decide, rfl, tb_202⟩
set_option maxRecDepth 20000 in
theorem tb_592 : Cond.code yX5_add cX5_add 2 none ∈ zTB := zmem (i := 592) rfl rfl
theorem tb_602 : Cond.methodLink RX7 61 yX5_add ∈ zTB := zmem (i := 602) (by decide +kernel) rfl
theorem tb_590 : Cond.instanceMethod yX5_add ∈ zTB := zmem (i := 590) (by decide +kernel) rfl
theorem tb_591 : Cond.selects yX5_add.cls yX5_add yX5_add ∈ zTB := zmem (i := 591) (by decide +kernel) rfl
theorem cv_X7_61 : zCV RX7 61 yX5_add cX5_add 2 none 1 5 := ⟨⟨tb_592, tb_117, tb_602, ⟨by decide, by decide, by decide +kernel⟩, by decide⟩, tb_590, tb_591, TX5, 2, rfl⟩
theorem tb_254 : Cond.fieldLink RX4 134 "TraitLines$Reader" "changedBits" "I" ∈ zTB := zmem (i := 254) (by decide +kernel) rfl
theorem fw_X4_134 : zFW RX4 134 4 6 .int := ⟨RX4, TX4, 8, tyX4, rfl, uw_4, by decide, rfl, tb_254, tyX4_ok, nmX4, rfl, by decide +kernel⟩
theorem fl_X4_134 : zFL RX4 134 4 6 := ⟨RX4, TX4, 8, rfl, uw_4, by decide, rfl, tb_254⟩
set_option maxRecDepth 20000 in
theorem tb_621 : Cond.code yX7_setLetterThere cX7_setLetterThere 5 none ∈ zTB := zmem (i := 621) rfl rfl
theorem tb_618 : Cond.methodLink RX4 148 yX7_setLetterThere ∈ zTB := zmem (i := 618) (by decide +kernel) rfl
theorem tb_619 : Cond.instanceMethod yX7_setLetterThere ∈ zTB := zmem (i := 619) (by decide +kernel) rfl
theorem tb_620 : Cond.selects yX7_setLetterThere.cls yX7_setLetterThere yX7_setLetterThere ∈ zTB := zmem (i := 620) (by decide +kernel) rfl
theorem cv_X4_148 : zCV RX4 148 yX7_setLetterThere cX7_setLetterThere 5 none 3 7 := ⟨⟨tb_621, tb_116, tb_618, ⟨by decide, by decide, by decide +kernel⟩, by decide⟩, tb_619, tb_620, TX7, 9, rfl⟩
set_option maxRecDepth 20000 in
theorem tb_617 : Cond.code yX9_hasBit cX9_hasBit 2 (some .boolean) ∈ zTB := zmem (i := 617) rfl rfl
theorem tb_616 : Cond.static yX9_hasBit ∈ zTB := zmem (i := 616) (by decide +kernel) rfl
theorem cn_X4_144 : zCN RX4 144 cX9_hasBit 2 (some .boolean) := ⟨tb_617, tb_114, by decide, tb_616, by decide⟩
set_option maxRecDepth 20000 in
theorem tb_610 : Cond.code yX4_readChange cX4_readChange 7 (some .boolean) ∈ zTB := zmem (i := 610) rfl rfl
theorem tb_607 : Cond.methodLink RX4 137 yX4_readChange ∈ zTB := zmem (i := 607) (by decide +kernel) rfl
theorem tb_609 : Cond.instanceMethod yX4_readChange ∈ zTB := zmem (i := 609) (by decide +kernel) rfl
theorem tb_10 : Cond.selects yX4_readChange.cls yX4_readChange yX4_readChange ∈ zTB := zmem (i := 10) (by decide +kernel) rfl
theorem cv_X4_137 : zCV RX4 137 yX4_readChange cX4_readChange 7 (some .boolean) 3 4 := ⟨⟨tb_610, tb_118, tb_607, ⟨by decide, by decide, by decide +kernel⟩, by decide⟩, tb_609, tb_10, TX4, 8, rfl⟩
set_option maxRecDepth 20000 in
theorem tb_606 : Cond.code yX4_readChanges cX4_readChanges 4 (some .boolean) ∈ zTB := zmem (i := 606) rfl rfl
theorem tb_603 : Cond.methodLink RX4 120 yX4_readChanges ∈ zTB := zmem (i := 603) (by decide +kernel) rfl
theorem tb_605 : Cond.instanceMethod yX4_readChanges ∈ zTB := zmem (i := 605) (by decide +kernel) rfl
theorem tb_9 : Cond.selects yX4_readChanges.cls yX4_readChanges yX4_readChanges ∈ zTB := zmem (i := 9) (by decide +kernel) rfl
theorem cv_X4_120 : zCV RX4 120 yX4_readChanges cX4_readChanges 4 (some .boolean) 2 4 := ⟨⟨tb_606, tb_118, tb_603, ⟨by decide, by decide, by decide +kernel⟩, by decide⟩, tb_605, tb_9, TX4, 8, rfl⟩
set_option maxRecDepth 20000 in
theorem tb_601 : Cond.code yX7_addTrait cX7_addTrait 4 none ∈ zTB := zmem (i := 601) rfl rfl
theorem tb_598 : Cond.methodLink RX4 117 yX7_addTrait ∈ zTB := zmem (i := 598) (by decide +kernel) rfl
theorem tb_599 : Cond.instanceMethod yX7_addTrait ∈ zTB := zmem (i := 599) (by decide +kernel) rfl
theorem tb_600 : Cond.selects yX7_addTrait.cls yX7_addTrait yX7_addTrait ∈ zTB := zmem (i := 600) (by decide +kernel) rfl
theorem cv_X4_117 : zCV RX4 117 yX7_addTrait cX7_addTrait 4 none 1 7 := ⟨⟨tb_601, tb_116, tb_598, ⟨by decide, by decide, by decide +kernel⟩, by decide⟩, tb_599, tb_600, TX7, 9, rfl⟩
set_option maxRecDepth 20000 in
theorem tb_572 : Cond.code yX4_readOfRow cX4_readOfRow 5 (some .int) ∈ zTB := zmem (i := 572) rfl rfl
theorem tb_569 : Cond.methodLink RX4 104 yX4_readOfRow ∈ zTB := zmem (i := 569) (by decide +kernel) rfl
theorem tb_571 : Cond.instanceMethod yX4_readOfRow ∈ zTB := zmem (i := 571) (by decide +kernel) rfl
theorem tb_7 : Cond.selects yX4_readOfRow.cls yX4_readOfRow yX4_readOfRow ∈ zTB := zmem (i := 7) (by decide +kernel) rfl
theorem cv_X4_104 : zCV RX4 104 yX4_readOfRow cX4_readOfRow 5 (some .int) 2 4 := ⟨⟨tb_572, tb_118, tb_569, ⟨by decide, by decide, by decide +kernel⟩, by decide⟩, tb_571, tb_7, TX4, 8, rfl⟩
set_option maxRecDepth 20000 in
theorem tb_597 : Cond.code yX4_readTraits cX4_readTraits 4 (some .boolean) ∈ zTB := zmem (i := 597) rfl rfl
theorem tb_594 : Cond.methodLink RX4 94 yX4_readTraits ∈ zTB := zmem (i := 594) (by decide +kernel) rfl
theorem tb_596 : Cond.instanceMethod yX4_readTraits ∈ zTB := zmem (i := 596) (by decide +kernel) rfl
theorem tb_8 : Cond.selects yX4_readTraits.cls yX4_readTraits yX4_readTraits ∈ zTB := zmem (i := 8) (by decide +kernel) rfl
theorem cv_X4_94 : zCV RX4 94 yX4_readTraits cX4_readTraits 4 (some .boolean) 1 4 := ⟨⟨tb_597, tb_118, tb_594, ⟨by decide, by decide, by decide +kernel⟩, by decide⟩, tb_596, tb_8, TX4, 8, rfl⟩
theorem tb_190 : Cond.fieldLink RX4 100 "TraitLines$Unit" "parents" "LTraitLines$Row;" ∈ zTB := zmem (i := 190) (by decide +kernel) rfl
theorem fl_X4_100 : zFL RX4 100 7 3 := ⟨RX7, TX7, 9, rfl, uw_7, by decide, rfl, tb_190⟩
theorem tb_589 : Cond.methodLink RX4 108 yX5_add ∈ zTB := zmem (i := 589) (by decide +kernel) rfl
theorem cv_X4_108 : zCV RX4 108 yX5_add cX5_add 2 none 1 5 := ⟨⟨tb_592, tb_117, tb_589, ⟨by decide, by decide, by decide +kernel⟩, by decide⟩, tb_590, tb_591, TX5, 2, rfl⟩
set_option maxRecDepth 20000 in
theorem tb_568 : Cond.code yX4_readParents cX4_readParents 4 (some .boolean) ∈ zTB := zmem (i := 568) rfl rfl
theorem tb_565 : Cond.methodLink RX4 88 yX4_readParents ∈ zTB := zmem (i := 565) (by decide +kernel) rfl
theorem tb_567 : Cond.instanceMethod yX4_readParents ∈ zTB := zmem (i := 567) (by decide +kernel) rfl
theorem tb_6 : Cond.selects yX4_readParents.cls yX4_readParents yX4_readParents ∈ zTB := zmem (i := 6) (by decide +kernel) rfl
theorem cv_X4_88 : zCV RX4 88 yX4_readParents cX4_readParents 4 (some .boolean) 1 4 := ⟨⟨tb_568, tb_118, tb_565, ⟨by decide, by decide, by decide +kernel⟩, by decide⟩, tb_567, tb_6, TX4, 8, rfl⟩
set_option maxRecDepth 20000 in
theorem tb_560 : Cond.code yX7_open cX7_open 3 none ∈ zTB := zmem (i := 560) rfl rfl
theorem tb_557 : Cond.methodLink RX4 80 yX7_open ∈ zTB := zmem (i := 557) (by decide +kernel) rfl
theorem tb_558 : Cond.instanceMethod yX7_open ∈ zTB := zmem (i := 558) (by decide +kernel) rfl
theorem tb_559 : Cond.selects yX7_open.cls yX7_open yX7_open ∈ zTB := zmem (i := 559) (by decide +kernel) rfl
theorem cv_X4_80 : zCV RX4 80 yX7_open cX7_open 3 none 2 7 := ⟨⟨tb_560, tb_116, tb_557, ⟨by decide, by decide, by decide +kernel⟩, by decide⟩, tb_558, tb_559, TX7, 9, rfl⟩
set_option maxRecDepth 20000 in
theorem tb_655 : Cond.code yX4_readBreak cX4_readBreak 1 (some .boolean) ∈ zTB := zmem (i := 655) rfl rfl
theorem tb_652 : Cond.methodLink RX4 50 yX4_readBreak ∈ zTB := zmem (i := 652) (by decide +kernel) rfl
theorem tb_654 : Cond.instanceMethod yX4_readBreak ∈ zTB := zmem (i := 654) (by decide +kernel) rfl
theorem tb_16 : Cond.selects yX4_readBreak.cls yX4_readBreak yX4_readBreak ∈ zTB := zmem (i := 16) (by decide +kernel) rfl
theorem cv_X4_50 : zCV RX4 50 yX4_readBreak cX4_readBreak 1 (some .boolean) 0 4 := ⟨⟨tb_655, tb_118, tb_652, ⟨by decide, by decide, by decide +kernel⟩, by decide⟩, tb_654, tb_16, TX4, 8, rfl⟩
set_option maxRecDepth 20000 in
theorem tb_490 : Cond.code yX4_readUnit cX4_readUnit 5 (some .boolean) ∈ zTB := zmem (i := 490) rfl rfl
theorem tb_487 : Cond.methodLink RX4 46 yX4_readUnit ∈ zTB := zmem (i := 487) (by decide +kernel) rfl
theorem tb_489 : Cond.instanceMethod yX4_readUnit ∈ zTB := zmem (i := 489) (by decide +kernel) rfl
theorem tb_2 : Cond.selects yX4_readUnit.cls yX4_readUnit yX4_readUnit ∈ zTB := zmem (i := 2) (by decide +kernel) rfl
theorem cv_X4_46 : zCV RX4 46 yX4_readUnit cX4_readUnit 5 (some .boolean) 0 4 := ⟨⟨tb_490, tb_118, tb_487, ⟨by decide, by decide, by decide +kernel⟩, by decide⟩, tb_489, tb_2, TX4, 8, rfl⟩
theorem fl_X4_34 : zFL RX4 34 4 5 := ⟨RX4, TX4, 8, rfl, uw_4, by decide, rfl, tb_253⟩
theorem tb_480 : Cond.methodLink RX4 15 Lib.Math.min.name ∈ zTB := zmem (i := 480) (by decide +kernel) rfl
theorem tb_422 : Cond.fieldLink RX9 16 "TraitLines" "world" "LTraitLines$World;" ∈ zTB := zmem (i := 422) (by decide +kernel) rfl
theorem fl_X9_16 : zFL RX9 16 9 2 := ⟨RX9, TX9, 13, rfl, uw_9, by decide, rfl, tb_422⟩
theorem fw_X9_20 : zFW RX9 20 9 3 (.object "TraitLines$World") := ⟨RX9, TX9, 13, tyX9, rfl, uw_9, by decide, rfl, tb_423, tyX9_ok, nmX9, rfl, by decide +kernel⟩
theorem fw_X9_16 : zFW RX9 16 9 2 (.object "TraitLines$World") := ⟨RX9, TX9, 13, tyX9, rfl, uw_9, by decide, rfl, tb_422, tyX9_ok, nmX9, rfl, by decide +kernel⟩
theorem tb_427 : Cond.fieldLink RX9 37 "TraitLines" "history" "LTraitLines$History;" ∈ zTB := zmem (i := 427) (by decide +kernel) rfl
theorem fl_X9_37 : zFL RX9 37 9 7 := ⟨RX9, TX9, 13, rfl, uw_9, by decide, rfl, tb_427⟩
theorem tb_284 : Cond.fieldLink RX1 22 "TraitLines$History" "size" "I" ∈ zTB := zmem (i := 284) (by decide +kernel) rfl
theorem uw_1 : ∀ w ∈ u_ws RX1 TX1 4, w ∈ zTB := by decide +kernel
theorem fw_X1_22 : zFW RX1 22 1 3 .int := ⟨RX1, TX1, 4, tyX1, rfl, uw_1, by decide, rfl, tb_284, tyX1_ok, nmX1, rfl, by decide +kernel⟩
theorem tb_432 : Cond.fieldLink RX9 90 "TraitLines" "stale" "Z" ∈ zTB := zmem (i := 432) (by decide +kernel) rfl
theorem fw_X9_90 : zFW RX9 90 9 12 .boolean := ⟨RX9, TX9, 13, tyX9, rfl, uw_9, by decide, rfl, tb_432, tyX9_ok, nmX9, rfl, by decide +kernel⟩
set_option maxRecDepth 20000 in
theorem tb_663 : Cond.code yX1_forgetAll cX1_forgetAll 1 none ∈ zTB := zmem (i := 663) rfl rfl
theorem tb_119 : Cond.initialized RX1 ∈ zTB := zmem (i := 119) (by decide +kernel) rfl
theorem tb_660 : Cond.methodLink RX9 87 yX1_forgetAll ∈ zTB := zmem (i := 660) (by decide +kernel) rfl
theorem tb_661 : Cond.instanceMethod yX1_forgetAll ∈ zTB := zmem (i := 661) (by decide +kernel) rfl
theorem tb_662 : Cond.selects yX1_forgetAll.cls yX1_forgetAll yX1_forgetAll ∈ zTB := zmem (i := 662) (by decide +kernel) rfl
theorem cv_X9_87 : zCV RX9 87 yX1_forgetAll cX1_forgetAll 1 none 0 1 := ⟨⟨tb_663, tb_119, tb_660, ⟨by decide, by decide, by decide +kernel⟩, by decide⟩, tb_661, tb_662, TX1, 4, rfl⟩
theorem tb_235 : Cond.fieldLink RX9 84 "TraitLines$World" "size" "I" ∈ zTB := zmem (i := 235) (by decide +kernel) rfl
theorem fl_X9_84 : zFL RX9 84 8 1 := ⟨RX8, TX8, 2, rfl, uw_8, by decide, rfl, tb_235⟩
set_option maxRecDepth 20000 in
theorem tb_659 : Cond.code yX9_startAnew cX9_startAnew 1 none ∈ zTB := zmem (i := 659) rfl rfl
theorem tb_656 : Cond.methodLink RX9 81 yX9_startAnew ∈ zTB := zmem (i := 656) (by decide +kernel) rfl
theorem tb_658 : Cond.instanceMethod yX9_startAnew ∈ zTB := zmem (i := 658) (by decide +kernel) rfl
theorem tb_17 : Cond.selects yX9_startAnew.cls yX9_startAnew yX9_startAnew ∈ zTB := zmem (i := 17) (by decide +kernel) rfl
theorem cv_X9_81 : zCV RX9 81 yX9_startAnew cX9_startAnew 1 none 0 9 := ⟨⟨tb_659, tb_114, tb_656, ⟨by decide, by decide, by decide +kernel⟩, by decide⟩, tb_658, tb_17, TX9, 13, rfl⟩
set_option maxRecDepth 20000 in
theorem tb_479 : Cond.code yX4_read cX4_read 6 (some .int) ∈ zTB := zmem (i := 479) rfl rfl
theorem tb_476 : Cond.methodLink RX9 77 yX4_read ∈ zTB := zmem (i := 476) (by decide +kernel) rfl
theorem tb_477 : Cond.instanceMethod yX4_read ∈ zTB := zmem (i := 477) (by decide +kernel) rfl
theorem tb_478 : Cond.selects yX4_read.cls yX4_read yX4_read ∈ zTB := zmem (i := 478) (by decide +kernel) rfl
theorem cv_X9_77 : zCV RX9 77 yX4_read cX4_read 6 (some .int) 3 4 := ⟨⟨tb_479, tb_118, tb_476, ⟨by decide, by decide, by decide +kernel⟩, by decide⟩, tb_477, tb_478, TX4, 8, rfl⟩
theorem tb_1104 : Cond.fieldLink RX10 71 "TraitLinesModel" "at" "I" ∈ zTB := zmem (i := 1104) (by decide +kernel) rfl
theorem fw_X10_71 : zFW RX10 71 10 8 .int := ⟨RX10, TX10, 29, tyX10, rfl, uw_10, by decide, rfl, tb_1104, tyX10_ok, nmX10, rfl, by decide +kernel⟩
theorem tb_1105 : Cond.fieldLink RX10 78 "TraitLinesModel" "fault" "I" ∈ zTB := zmem (i := 1105) (by decide +kernel) rfl
theorem fw_X10_78 : zFW RX10 78 10 9 .int := ⟨RX10, TX10, 29, tyX10, rfl, uw_10, by decide, rfl, tb_1105, tyX10_ok, nmX10, rfl, by decide +kernel⟩
theorem tb_1097 : Cond.fieldLink RX10 15 "TraitLinesModel" "heard" "[I" ∈ zTB := zmem (i := 1097) (by decide +kernel) rfl
theorem fl_X10_15 : zFL RX10 15 10 1 := ⟨RX10, TX10, 29, rfl, uw_10, by decide, rfl, tb_1097⟩
theorem fl_X10_71 : zFL RX10 71 10 8 := ⟨RX10, TX10, 29, rfl, uw_10, by decide, rfl, tb_1104⟩
set_option maxRecDepth 20000 in
theorem tb_1209 : Cond.code yX10_sign cX10_sign 1 (some .int) ∈ zTB := zmem (i := 1209) rfl rfl
theorem tb_1206 : Cond.methodLink RX10 74 yX10_sign ∈ zTB := zmem (i := 1206) (by decide +kernel) rfl
theorem tb_1208 : Cond.instanceMethod yX10_sign ∈ zTB := zmem (i := 1208) (by decide +kernel) rfl
theorem tb_52 : Cond.selects yX10_sign.cls yX10_sign yX10_sign ∈ zTB := zmem (i := 52) (by decide +kernel) rfl
theorem cv_X10_74 : zCV RX10 74 yX10_sign cX10_sign 1 (some .int) 0 10 := ⟨⟨tb_1209, tb_124, tb_1206, ⟨by decide, by decide, by decide +kernel⟩, by decide⟩, tb_1208, tb_52, TX10, 29, rfl⟩
set_option maxRecDepth 20000 in
theorem tb_1225 : Cond.code yX10_in cX10_in 3 (some .boolean) ∈ zTB := zmem (i := 1225) rfl rfl
theorem tb_1223 : Cond.methodLink RX10 88 yX10_in ∈ zTB := zmem (i := 1223) (by decide +kernel) rfl
theorem tb_1224 : Cond.static yX10_in ∈ zTB := zmem (i := 1224) (by decide +kernel) rfl
theorem cs_X10_88 : zCS RX10 88 yX10_in cX10_in 3 (some .boolean) 3 := ⟨⟨tb_1225, tb_124, tb_1223, ⟨by decide, by decide, by decide +kernel⟩, by decide⟩, tb_1224⟩
set_option maxRecDepth 20000 in
theorem tb_1205 : Cond.code yX10_next cX10_next 1 (some .int) ∈ zTB := zmem (i := 1205) rfl rfl
theorem tb_1202 : Cond.methodLink RX10 85 yX10_next ∈ zTB := zmem (i := 1202) (by decide +kernel) rfl
theorem tb_1204 : Cond.instanceMethod yX10_next ∈ zTB := zmem (i := 1204) (by decide +kernel) rfl
theorem tb_51 : Cond.selects yX10_next.cls yX10_next yX10_next ∈ zTB := zmem (i := 51) (by decide +kernel) rfl
theorem cv_X10_85 : zCV RX10 85 yX10_next cX10_next 1 (some .int) 0 10 := ⟨⟨tb_1205, tb_124, tb_1202, ⟨by decide, by decide, by decide +kernel⟩, by decide⟩, tb_1204, tb_51, TX10, 29, rfl⟩
theorem fl_X10_78 : zFL RX10 78 10 9 := ⟨RX10, TX10, 29, rfl, uw_10, by decide, rfl, tb_1105⟩
theorem tb_1231 : Cond.methodLink RX10 100 yJ0_charAt_5068e ∈ zTB := zmem (i := 1231) (by decide +kernel) rfl
theorem tb_1230 : Cond.methodLink RX10 95 yJ0_length_8abf5 ∈ zTB := zmem (i := 1230) (by decide +kernel) rfl
set_option maxRecDepth 20000 in
theorem tb_1229 : Cond.code yX10_isRight cX10_isRight 1 (some .boolean) ∈ zTB := zmem (i := 1229) rfl rfl
theorem tb_1226 : Cond.methodLink RX10 81 yX10_isRight ∈ zTB := zmem (i := 1226) (by decide +kernel) rfl
theorem tb_1228 : Cond.instanceMethod yX10_isRight ∈ zTB := zmem (i := 1228) (by decide +kernel) rfl
theorem tb_56 : Cond.selects yX10_isRight.cls yX10_isRight yX10_isRight ∈ zTB := zmem (i := 56) (by decide +kernel) rfl
theorem cv_X10_81 : zCV RX10 81 yX10_isRight cX10_isRight 1 (some .boolean) 0 10 := ⟨⟨tb_1229, tb_124, tb_1226, ⟨by decide, by decide, by decide +kernel⟩, by decide⟩, tb_1228, tb_56, TX10, 29, rfl⟩
set_option maxRecDepth 20000 in
theorem tb_1222 : Cond.code yX10_wordLong cX10_wordLong 2 (some .int) ∈ zTB := zmem (i := 1222) rfl rfl
theorem tb_1219 : Cond.methodLink RX10 92 yX10_wordLong ∈ zTB := zmem (i := 1219) (by decide +kernel) rfl
theorem tb_1221 : Cond.instanceMethod yX10_wordLong ∈ zTB := zmem (i := 1221) (by decide +kernel) rfl
theorem tb_55 : Cond.selects yX10_wordLong.cls yX10_wordLong yX10_wordLong ∈ zTB := zmem (i := 55) (by decide +kernel) rfl
theorem cv_X10_92 : zCV RX10 92 yX10_wordLong cX10_wordLong 2 (some .int) 0 10 := ⟨⟨tb_1222, tb_124, tb_1219, ⟨by decide, by decide, by decide +kernel⟩, by decide⟩, tb_1221, tb_55, TX10, 29, rfl⟩
set_option maxRecDepth 20000 in
theorem tb_1236 : Cond.code yX10_fails cX10_fails 3 none ∈ zTB := zmem (i := 1236) rfl rfl
theorem tb_1233 : Cond.methodLink RX10 112 yX10_fails ∈ zTB := zmem (i := 1233) (by decide +kernel) rfl
theorem tb_1235 : Cond.instanceMethod yX10_fails ∈ zTB := zmem (i := 1235) (by decide +kernel) rfl
theorem tb_57 : Cond.selects yX10_fails.cls yX10_fails yX10_fails ∈ zTB := zmem (i := 57) (by decide +kernel) rfl
theorem cv_X10_112 : zCV RX10 112 yX10_fails cX10_fails 3 none 2 10 := ⟨⟨tb_1236, tb_124, tb_1233, ⟨by decide, by decide, by decide +kernel⟩, by decide⟩, tb_1235, tb_57, TX10, 29, rfl⟩
set_option maxRecDepth 20000 in
theorem tb_1247 : Cond.code yX10_truth cX10_truth 1 (some .int) ∈ zTB := zmem (i := 1247) rfl rfl
theorem tb_1245 : Cond.methodLink RX10 104 yX10_truth ∈ zTB := zmem (i := 1245) (by decide +kernel) rfl
theorem tb_1246 : Cond.static yX10_truth ∈ zTB := zmem (i := 1246) (by decide +kernel) rfl
theorem cs_X10_104 : zCS RX10 104 yX10_truth cX10_truth 1 (some .int) 1 := ⟨⟨tb_1247, tb_124, tb_1245, ⟨by decide, by decide, by decide +kernel⟩, by decide⟩, tb_1246⟩
theorem tb_1106 : Cond.fieldLink RX10 116 "TraitLinesModel" "letterAt" "I" ∈ zTB := zmem (i := 1106) (by decide +kernel) rfl
theorem fw_X10_116 : zFW RX10 116 10 10 .int := ⟨RX10, TX10, 29, tyX10, rfl, uw_10, by decide, rfl, tb_1106, tyX10_ok, nmX10, rfl, by decide +kernel⟩
theorem fl_X10_116 : zFL RX10 116 10 10 := ⟨RX10, TX10, 29, rfl, uw_10, by decide, rfl, tb_1106⟩
set_option maxRecDepth 20000 in
theorem tb_1294 : Cond.code yX10_ownAt cX10_ownAt 2 (some .int) ∈ zTB := zmem (i := 1294) rfl rfl
theorem tb_1292 : Cond.methodLink RX10 168 yX10_ownAt ∈ zTB := zmem (i := 1292) (by decide +kernel) rfl
theorem tb_1293 : Cond.static yX10_ownAt ∈ zTB := zmem (i := 1293) (by decide +kernel) rfl
theorem cs_X10_168 : zCS RX10 168 yX10_ownAt cX10_ownAt 2 (some .int) 2 := ⟨⟨tb_1294, tb_124, tb_1292, ⟨by decide, by decide, by decide +kernel⟩, by decide⟩, tb_1293⟩
set_option maxRecDepth 20000 in
theorem tb_1268 : Cond.code yX10_takesSign cX10_takesSign 3 (some .boolean) ∈ zTB := zmem (i := 1268) rfl rfl
theorem tb_1265 : Cond.methodLink RX10 108 yX10_takesSign ∈ zTB := zmem (i := 1265) (by decide +kernel) rfl
theorem tb_1267 : Cond.instanceMethod yX10_takesSign ∈ zTB := zmem (i := 1267) (by decide +kernel) rfl
theorem tb_63 : Cond.selects yX10_takesSign.cls yX10_takesSign yX10_takesSign ∈ zTB := zmem (i := 63) (by decide +kernel) rfl
theorem cv_X10_108 : zCV RX10 108 yX10_takesSign cX10_takesSign 3 (some .boolean) 1 10 := ⟨⟨tb_1268, tb_124, tb_1265, ⟨by decide, by decide, by decide +kernel⟩, by decide⟩, tb_1267, tb_63, TX10, 29, rfl⟩
set_option maxRecDepth 20000 in
theorem tb_1276 : Cond.code yX10_letter cX10_letter 2 (some .int) ∈ zTB := zmem (i := 1276) rfl rfl
theorem tb_1273 : Cond.methodLink RX10 130 yX10_letter ∈ zTB := zmem (i := 1273) (by decide +kernel) rfl
theorem tb_1275 : Cond.instanceMethod yX10_letter ∈ zTB := zmem (i := 1275) (by decide +kernel) rfl
theorem tb_65 : Cond.selects yX10_letter.cls yX10_letter yX10_letter ∈ zTB := zmem (i := 65) (by decide +kernel) rfl
theorem cv_X10_130 : zCV RX10 130 yX10_letter cX10_letter 2 (some .int) 0 10 := ⟨⟨tb_1276, tb_124, tb_1273, ⟨by decide, by decide, by decide +kernel⟩, by decide⟩, tb_1275, tb_65, TX10, 29, rfl⟩
set_option maxRecDepth 20000 in
theorem tb_1218 : Cond.code yX10_takes cX10_takes 5 (some .boolean) ∈ zTB := zmem (i := 1218) rfl rfl
theorem tb_1215 : Cond.methodLink RX10 161 yX10_takes ∈ zTB := zmem (i := 1215) (by decide +kernel) rfl
theorem tb_1217 : Cond.instanceMethod yX10_takes ∈ zTB := zmem (i := 1217) (by decide +kernel) rfl
theorem tb_54 : Cond.selects yX10_takes.cls yX10_takes yX10_takes ∈ zTB := zmem (i := 54) (by decide +kernel) rfl
theorem cv_X10_161 : zCV RX10 161 yX10_takes cX10_takes 5 (some .boolean) 1 10 := ⟨⟨tb_1218, tb_124, tb_1215, ⟨by decide, by decide, by decide +kernel⟩, by decide⟩, tb_1217, tb_54, TX10, 29, rfl⟩
theorem tb_1303 : Cond.methodLink RX10 154 Lib.Math.min.name ∈ zTB := zmem (i := 1303) (by decide +kernel) rfl
set_option maxRecDepth 20000 in
theorem tb_1302 : Cond.code yX10_term cX10_term 3 (some .int) ∈ zTB := zmem (i := 1302) rfl rfl
theorem tb_1299 : Cond.methodLink RX10 165 yX10_term ∈ zTB := zmem (i := 1299) (by decide +kernel) rfl
theorem tb_1301 : Cond.instanceMethod yX10_term ∈ zTB := zmem (i := 1301) (by decide +kernel) rfl
theorem tb_70 : Cond.selects yX10_term.cls yX10_term yX10_term ∈ zTB := zmem (i := 70) (by decide +kernel) rfl
theorem cv_X10_165 : zCV RX10 165 yX10_term cX10_term 3 (some .int) 0 10 := ⟨⟨tb_1302, tb_124, tb_1299, ⟨by decide, by decide, by decide +kernel⟩, by decide⟩, tb_1301, tb_70, TX10, 29, rfl⟩
set_option maxRecDepth 20000 in
theorem tb_1298 : Cond.code yX10_readsTerms cX10_readsTerms 5 none ∈ zTB := zmem (i := 1298) rfl rfl
theorem tb_1295 : Cond.methodLink RX10 171 yX10_readsTerms ∈ zTB := zmem (i := 1295) (by decide +kernel) rfl
theorem tb_1297 : Cond.instanceMethod yX10_readsTerms ∈ zTB := zmem (i := 1297) (by decide +kernel) rfl
theorem tb_69 : Cond.selects yX10_readsTerms.cls yX10_readsTerms yX10_readsTerms ∈ zTB := zmem (i := 69) (by decide +kernel) rfl
theorem cv_X10_171 : zCV RX10 171 yX10_readsTerms cX10_readsTerms 5 none 1 10 := ⟨⟨tb_1298, tb_124, tb_1295, ⟨by decide, by decide, by decide +kernel⟩, by decide⟩, tb_1297, tb_69, TX10, 29, rfl⟩
set_option maxRecDepth 20000 in
theorem tb_1287 : Cond.code yX10_must cX10_must 2 none ∈ zTB := zmem (i := 1287) rfl rfl
theorem tb_1284 : Cond.methodLink RX10 144 yX10_must ∈ zTB := zmem (i := 1284) (by decide +kernel) rfl
theorem tb_1286 : Cond.instanceMethod yX10_must ∈ zTB := zmem (i := 1286) (by decide +kernel) rfl
theorem tb_67 : Cond.selects yX10_must.cls yX10_must yX10_must ∈ zTB := zmem (i := 67) (by decide +kernel) rfl
theorem cv_X10_144 : zCV RX10 144 yX10_must cX10_must 2 none 1 10 := ⟨⟨tb_1287, tb_124, tb_1284, ⟨by decide, by decide, by decide +kernel⟩, by decide⟩, tb_1286, tb_67, TX10, 29, rfl⟩
set_option maxRecDepth 20000 in
theorem tb_1291 : Cond.code yX10_readsOwns cX10_readsOwns 7 none ∈ zTB := zmem (i := 1291) rfl rfl
theorem tb_1288 : Cond.methodLink RX10 188 yX10_readsOwns ∈ zTB := zmem (i := 1288) (by decide +kernel) rfl
theorem tb_1290 : Cond.instanceMethod yX10_readsOwns ∈ zTB := zmem (i := 1290) (by decide +kernel) rfl
theorem tb_68 : Cond.selects yX10_readsOwns.cls yX10_readsOwns yX10_readsOwns ∈ zTB := zmem (i := 68) (by decide +kernel) rfl
theorem cv_X10_188 : zCV RX10 188 yX10_readsOwns cX10_readsOwns 7 none 1 10 := ⟨⟨tb_1291, tb_124, tb_1288, ⟨by decide, by decide, by decide +kernel⟩, by decide⟩, tb_1290, tb_68, TX10, 29, rfl⟩
set_option maxRecDepth 20000 in
theorem tb_1244 : Cond.code yX10_unitOf cX10_unitOf 3 (some .int) ∈ zTB := zmem (i := 1244) rfl rfl
theorem tb_1241 : Cond.methodLink RX10 122 yX10_unitOf ∈ zTB := zmem (i := 1241) (by decide +kernel) rfl
theorem tb_1243 : Cond.instanceMethod yX10_unitOf ∈ zTB := zmem (i := 1243) (by decide +kernel) rfl
theorem tb_59 : Cond.selects yX10_unitOf.cls yX10_unitOf yX10_unitOf ∈ zTB := zmem (i := 59) (by decide +kernel) rfl
theorem cv_X10_122 : zCV RX10 122 yX10_unitOf cX10_unitOf 3 (some .int) 1 10 := ⟨⟨tb_1244, tb_124, tb_1241, ⟨by decide, by decide, by decide +kernel⟩, by decide⟩, tb_1243, tb_59, TX10, 29, rfl⟩
set_option maxRecDepth 20000 in
theorem tb_1240 : Cond.code yX10_isCapital cX10_isCapital 1 (some .boolean) ∈ zTB := zmem (i := 1240) rfl rfl
theorem tb_1237 : Cond.methodLink RX10 119 yX10_isCapital ∈ zTB := zmem (i := 1237) (by decide +kernel) rfl
theorem tb_1239 : Cond.instanceMethod yX10_isCapital ∈ zTB := zmem (i := 1239) (by decide +kernel) rfl
theorem tb_58 : Cond.selects yX10_isCapital.cls yX10_isCapital yX10_isCapital ∈ zTB := zmem (i := 58) (by decide +kernel) rfl
theorem cv_X10_119 : zCV RX10 119 yX10_isCapital cX10_isCapital 1 (some .boolean) 0 10 := ⟨⟨tb_1240, tb_124, tb_1237, ⟨by decide, by decide, by decide +kernel⟩, by decide⟩, tb_1239, tb_58, TX10, 29, rfl⟩
theorem tb_1107 : Cond.fieldLink RX10 141 "TraitLinesModel" "toldNow" "I" ∈ zTB := zmem (i := 1107) (by decide +kernel) rfl
theorem fw_X10_141 : zFW RX10 141 10 11 .int := ⟨RX10, TX10, 29, tyX10, rfl, uw_10, by decide, rfl, tb_1107, tyX10_ok, nmX10, rfl, by decide +kernel⟩
theorem fl_X10_141 : zFL RX10 141 10 11 := ⟨RX10, TX10, 29, rfl, uw_10, by decide, rfl, tb_1107⟩
set_option maxRecDepth 20000 in
theorem tb_1283 : Cond.code yX10_lays cX10_lays 5 none ∈ zTB := zmem (i := 1283) rfl rfl
theorem tb_1280 : Cond.methodLink RX10 137 yX10_lays ∈ zTB := zmem (i := 1280) (by decide +kernel) rfl
theorem tb_1282 : Cond.instanceMethod yX10_lays ∈ zTB := zmem (i := 1282) (by decide +kernel) rfl
theorem tb_66 : Cond.selects yX10_lays.cls yX10_lays yX10_lays ∈ zTB := zmem (i := 66) (by decide +kernel) rfl
theorem cv_X10_137 : zCV RX10 137 yX10_lays cX10_lays 5 none 3 10 := ⟨⟨tb_1283, tb_124, tb_1280, ⟨by decide, by decide, by decide +kernel⟩, by decide⟩, tb_1282, tb_66, TX10, 29, rfl⟩
set_option maxRecDepth 20000 in
theorem tb_1279 : Cond.code yX10_has cX10_has 2 (some .boolean) ∈ zTB := zmem (i := 1279) rfl rfl
theorem tb_1277 : Cond.methodLink RX10 133 yX10_has ∈ zTB := zmem (i := 1277) (by decide +kernel) rfl
theorem tb_1278 : Cond.static yX10_has ∈ zTB := zmem (i := 1278) (by decide +kernel) rfl
theorem cs_X10_133 : zCS RX10 133 yX10_has cX10_has 2 (some .boolean) 2 := ⟨⟨tb_1279, tb_124, tb_1277, ⟨by decide, by decide, by decide +kernel⟩, by decide⟩, tb_1278⟩
set_option maxRecDepth 20000 in
theorem tb_1272 : Cond.code yX10_readsChange cX10_readsChange 5 none ∈ zTB := zmem (i := 1272) rfl rfl
theorem tb_1269 : Cond.methodLink RX10 151 yX10_readsChange ∈ zTB := zmem (i := 1269) (by decide +kernel) rfl
theorem tb_1271 : Cond.instanceMethod yX10_readsChange ∈ zTB := zmem (i := 1271) (by decide +kernel) rfl
theorem tb_64 : Cond.selects yX10_readsChange.cls yX10_readsChange yX10_readsChange ∈ zTB := zmem (i := 64) (by decide +kernel) rfl
theorem cv_X10_151 : zCV RX10 151 yX10_readsChange cX10_readsChange 5 none 3 10 := ⟨⟨tb_1272, tb_124, tb_1269, ⟨by decide, by decide, by decide +kernel⟩, by decide⟩, tb_1271, tb_64, TX10, 29, rfl⟩
set_option maxRecDepth 20000 in
theorem tb_1264 : Cond.code yX10_useAt cX10_useAt 2 (some .int) ∈ zTB := zmem (i := 1264) rfl rfl
theorem tb_1262 : Cond.methodLink RX10 147 yX10_useAt ∈ zTB := zmem (i := 1262) (by decide +kernel) rfl
theorem tb_1263 : Cond.static yX10_useAt ∈ zTB := zmem (i := 1263) (by decide +kernel) rfl
theorem cs_X10_147 : zCS RX10 147 yX10_useAt cX10_useAt 2 (some .int) 2 := ⟨⟨tb_1264, tb_124, tb_1262, ⟨by decide, by decide, by decide +kernel⟩, by decide⟩, tb_1263⟩
set_option maxRecDepth 20000 in
theorem tb_1256 : Cond.code yX10_named cX10_named 8 (some .int) ∈ zTB := zmem (i := 1256) rfl rfl
theorem tb_1253 : Cond.methodLink RX10 126 yX10_named ∈ zTB := zmem (i := 1253) (by decide +kernel) rfl
theorem tb_1255 : Cond.instanceMethod yX10_named ∈ zTB := zmem (i := 1255) (by decide +kernel) rfl
theorem tb_61 : Cond.selects yX10_named.cls yX10_named yX10_named ∈ zTB := zmem (i := 61) (by decide +kernel) rfl
theorem cv_X10_126 : zCV RX10 126 yX10_named cX10_named 8 (some .int) 4 10 := ⟨⟨tb_1256, tb_124, tb_1253, ⟨by decide, by decide, by decide +kernel⟩, by decide⟩, tb_1255, tb_61, TX10, 29, rfl⟩
set_option maxRecDepth 20000 in
theorem tb_1261 : Cond.code yX10_readsUses cX10_readsUses 8 none ∈ zTB := zmem (i := 1261) rfl rfl
theorem tb_1258 : Cond.methodLink RX10 185 yX10_readsUses ∈ zTB := zmem (i := 1258) (by decide +kernel) rfl
theorem tb_1260 : Cond.instanceMethod yX10_readsUses ∈ zTB := zmem (i := 1260) (by decide +kernel) rfl
theorem tb_62 : Cond.selects yX10_readsUses.cls yX10_readsUses yX10_readsUses ∈ zTB := zmem (i := 62) (by decide +kernel) rfl
theorem cv_X10_185 : zCV RX10 185 yX10_readsUses cX10_readsUses 8 none 1 10 := ⟨⟨tb_1261, tb_124, tb_1258, ⟨by decide, by decide, by decide +kernel⟩, by decide⟩, tb_1260, tb_62, TX10, 29, rfl⟩
set_option maxRecDepth 20000 in
theorem tb_1252 : Cond.code yX10_readsParents cX10_readsParents 4 none ∈ zTB := zmem (i := 1252) rfl rfl
theorem tb_1249 : Cond.methodLink RX10 180 yX10_readsParents ∈ zTB := zmem (i := 1249) (by decide +kernel) rfl
theorem tb_1251 : Cond.instanceMethod yX10_readsParents ∈ zTB := zmem (i := 1251) (by decide +kernel) rfl
theorem tb_60 : Cond.selects yX10_readsParents.cls yX10_readsParents yX10_readsParents ∈ zTB := zmem (i := 60) (by decide +kernel) rfl
theorem cv_X10_180 : zCV RX10 180 yX10_readsParents cX10_readsParents 4 none 1 10 := ⟨⟨tb_1252, tb_124, tb_1249, ⟨by decide, by decide, by decide +kernel⟩, by decide⟩, tb_1251, tb_60, TX10, 29, rfl⟩
set_option maxRecDepth 20000 in
theorem tb_1213 : Cond.code yX10_readsUnit cX10_readsUnit 6 none ∈ zTB := zmem (i := 1213) rfl rfl
theorem tb_1210 : Cond.methodLink RX10 191 yX10_readsUnit ∈ zTB := zmem (i := 1210) (by decide +kernel) rfl
theorem tb_1212 : Cond.instanceMethod yX10_readsUnit ∈ zTB := zmem (i := 1212) (by decide +kernel) rfl
theorem tb_53 : Cond.selects yX10_readsUnit.cls yX10_readsUnit yX10_readsUnit ∈ zTB := zmem (i := 53) (by decide +kernel) rfl
theorem cv_X10_191 : zCV RX10 191 yX10_readsUnit cX10_readsUnit 6 none 0 10 := ⟨⟨tb_1213, tb_124, tb_1210, ⟨by decide, by decide, by decide +kernel⟩, by decide⟩, tb_1212, tb_53, TX10, 29, rfl⟩
theorem tb_1096 : Cond.fieldLink RX10 11 "TraitLinesModel" "now" "[I" ∈ zTB := zmem (i := 1096) (by decide +kernel) rfl
theorem fl_X10_11 : zFL RX10 11 10 0 := ⟨RX10, TX10, 29, rfl, uw_10, by decide, rfl, tb_1096⟩
theorem tb_1101 : Cond.fieldLink RX10 198 "TraitLinesModel" "pastMany" "I" ∈ zTB := zmem (i := 1101) (by decide +kernel) rfl
theorem fw_X10_198 : zFW RX10 198 10 5 .int := ⟨RX10, TX10, 29, tyX10, rfl, uw_10, by decide, rfl, tb_1101, tyX10_ok, nmX10, rfl, by decide +kernel⟩
set_option maxRecDepth 20000 in
theorem tb_1307 : Cond.code yX10_moves cX10_moves 5 none ∈ zTB := zmem (i := 1307) rfl rfl
theorem tb_1305 : Cond.methodLink RX10 194 yX10_moves ∈ zTB := zmem (i := 1305) (by decide +kernel) rfl
theorem tb_1306 : Cond.static yX10_moves ∈ zTB := zmem (i := 1306) (by decide +kernel) rfl
theorem cs_X10_194 : zCS RX10 194 yX10_moves cX10_moves 5 none 4 := ⟨⟨tb_1307, tb_124, tb_1305, ⟨by decide, by decide, by decide +kernel⟩, by decide⟩, tb_1306⟩
theorem tb_229 : Cond.fieldLink RX9 98 "TraitLines$World" "units" "[LTraitLines$Unit;" ∈ zTB := zmem (i := 229) (by decide +kernel) rfl
theorem fl_X9_98 : zFL RX9 98 8 0 := ⟨RX8, TX8, 2, rfl, uw_8, by decide, rfl, tb_229⟩
theorem tb_191 : Cond.fieldLink RX9 102 "TraitLines$Unit" "parents" "LTraitLines$Row;" ∈ zTB := zmem (i := 191) (by decide +kernel) rfl
theorem fl_X9_102 : zFL RX9 102 7 3 := ⟨RX7, TX7, 9, rfl, uw_7, by decide, rfl, tb_191⟩
theorem tb_170 : Cond.fieldLink RX9 114 "TraitLines$Row" "size" "I" ∈ zTB := zmem (i := 170) (by decide +kernel) rfl
theorem fl_X9_114 : zFL RX9 114 5 1 := ⟨RX5, TX5, 2, rfl, uw_5, by decide, rfl, tb_170⟩
theorem tb_281 : Cond.fieldLink RX1 11 "TraitLines$History" "before" "[LTraitLines$Unit;" ∈ zTB := zmem (i := 281) (by decide +kernel) rfl
theorem fl_X1_11 : zFL RX1 11 1 0 := ⟨RX1, TX1, 4, rfl, uw_1, by decide, rfl, tb_281⟩
theorem tb_283 : Cond.fieldLink RX1 26 "TraitLines$History" "next" "I" ∈ zTB := zmem (i := 283) (by decide +kernel) rfl
theorem fl_X1_26 : zFL RX1 26 1 2 := ⟨RX1, TX1, 4, rfl, uw_1, by decide, rfl, tb_283⟩
theorem fl_X7_34 : zFL RX7 34 7 0 := ⟨RX7, TX7, 9, rfl, uw_7, by decide, rfl, tb_179⟩
theorem fl_X7_38 : zFL RX7 38 7 1 := ⟨RX7, TX7, 9, rfl, uw_7, by decide, rfl, tb_182⟩
theorem tb_686 : Cond.methodLink RX5 19 arraycopyName ∈ zTB := zmem (i := 686) (by decide +kernel) rfl
theorem tb_688 : Cond.native arraycopyName ∈ zTB := zmem (i := 688) (by decide +kernel) rfl
theorem tb_687 : Cond.static arraycopyName ∈ zTB := zmem (i := 687) (by decide +kernel) rfl
theorem tb_131 : Cond.initialized RJ10 ∈ zTB := zmem (i := 131) (by decide +kernel) rfl
theorem ca_X5_19 : zCA RX5 19 := ⟨tb_686, tb_688, tb_687, tb_131⟩
theorem tb_689 : Cond.methodLink RX7 69 arraycopyName ∈ zTB := zmem (i := 689) (by decide +kernel) rfl
theorem ca_X7_69 : zCA RX7 69 := ⟨tb_689, tb_688, tb_687, tb_131⟩
set_option maxRecDepth 20000 in
theorem tb_685 : Cond.code yX5_copyFrom cX5_copyFrom 2 none ∈ zTB := zmem (i := 685) rfl rfl
theorem tb_682 : Cond.methodLink RX7 65 yX5_copyFrom ∈ zTB := zmem (i := 682) (by decide +kernel) rfl
theorem tb_683 : Cond.instanceMethod yX5_copyFrom ∈ zTB := zmem (i := 683) (by decide +kernel) rfl
theorem tb_684 : Cond.selects yX5_copyFrom.cls yX5_copyFrom yX5_copyFrom ∈ zTB := zmem (i := 684) (by decide +kernel) rfl
theorem cv_X7_65 : zCV RX7 65 yX5_copyFrom cX5_copyFrom 2 none 1 5 := ⟨⟨tb_685, tb_117, tb_682, ⟨by decide, by decide, by decide +kernel⟩, by decide⟩, tb_683, tb_684, TX5, 2, rfl⟩
theorem tb_282 : Cond.fieldLink RX1 17 "TraitLines$History" "changed" "[I" ∈ zTB := zmem (i := 282) (by decide +kernel) rfl
theorem fl_X1_17 : zFL RX1 17 1 1 := ⟨RX1, TX1, 4, rfl, uw_1, by decide, rfl, tb_282⟩
theorem fw_X1_26 : zFW RX1 26 1 2 .int := ⟨RX1, TX1, 4, tyX1, rfl, uw_1, by decide, rfl, tb_283, tyX1_ok, nmX1, rfl, by decide +kernel⟩
theorem fl_X1_22 : zFL RX1 22 1 3 := ⟨RX1, TX1, 4, rfl, uw_1, by decide, rfl, tb_284⟩
theorem tb_690 : Cond.methodLink RX1 33 Lib.Math.min.name ∈ zTB := zmem (i := 690) (by decide +kernel) rfl
set_option maxRecDepth 20000 in
theorem tb_681 : Cond.code yX7_copyFrom cX7_copyFrom 2 none ∈ zTB := zmem (i := 681) rfl rfl
theorem tb_678 : Cond.methodLink RX1 29 yX7_copyFrom ∈ zTB := zmem (i := 678) (by decide +kernel) rfl
theorem tb_679 : Cond.instanceMethod yX7_copyFrom ∈ zTB := zmem (i := 679) (by decide +kernel) rfl
theorem tb_680 : Cond.selects yX7_copyFrom.cls yX7_copyFrom yX7_copyFrom ∈ zTB := zmem (i := 680) (by decide +kernel) rfl
theorem cv_X1_29 : zCV RX1 29 yX7_copyFrom cX7_copyFrom 2 none 1 7 := ⟨⟨tb_681, tb_116, tb_678, ⟨by decide, by decide, by decide +kernel⟩, by decide⟩, tb_679, tb_680, TX7, 9, rfl⟩
set_option maxRecDepth 20000 in
theorem tb_677 : Cond.code yX1_record cX1_record 3 none ∈ zTB := zmem (i := 677) rfl rfl
theorem tb_674 : Cond.methodLink RX9 182 yX1_record ∈ zTB := zmem (i := 674) (by decide +kernel) rfl
theorem tb_675 : Cond.instanceMethod yX1_record ∈ zTB := zmem (i := 675) (by decide +kernel) rfl
theorem tb_676 : Cond.selects yX1_record.cls yX1_record yX1_record ∈ zTB := zmem (i := 676) (by decide +kernel) rfl
theorem cv_X9_182 : zCV RX9 182 yX1_record cX1_record 3 none 2 1 := ⟨⟨tb_677, tb_119, tb_674, ⟨by decide, by decide, by decide +kernel⟩, by decide⟩, tb_675, tb_676, TX1, 4, rfl⟩
theorem tb_691 : Cond.methodLink RX9 118 yX5_add ∈ zTB := zmem (i := 691) (by decide +kernel) rfl
theorem cv_X9_118 : zCV RX9 118 yX5_add cX5_add 2 none 1 5 := ⟨⟨tb_592, tb_117, tb_691, ⟨by decide, by decide, by decide +kernel⟩, by decide⟩, tb_590, tb_591, TX5, 2, rfl⟩
set_option maxRecDepth 20000 in
theorem tb_673 : Cond.code yX9_beginAct cX9_beginAct 2 none ∈ zTB := zmem (i := 673) rfl rfl
theorem tb_670 : Cond.methodLink RX9 115 yX9_beginAct ∈ zTB := zmem (i := 670) (by decide +kernel) rfl
theorem tb_672 : Cond.instanceMethod yX9_beginAct ∈ zTB := zmem (i := 672) (by decide +kernel) rfl
theorem tb_18 : Cond.selects yX9_beginAct.cls yX9_beginAct yX9_beginAct ∈ zTB := zmem (i := 18) (by decide +kernel) rfl
theorem cv_X9_115 : zCV RX9 115 yX9_beginAct cX9_beginAct 2 none 1 9 := ⟨⟨tb_673, tb_114, tb_670, ⟨by decide, by decide, by decide +kernel⟩, by decide⟩, tb_672, tb_18, TX9, 13, rfl⟩
theorem tb_669 : Cond.methodLink RX9 108 yX5_placeOf ∈ zTB := zmem (i := 669) (by decide +kernel) rfl
theorem cv_X9_108 : zCV RX9 108 yX5_placeOf cX5_placeOf 3 (some .int) 1 5 := ⟨⟨tb_588, tb_117, tb_669, ⟨by decide, by decide, by decide +kernel⟩, by decide⟩, tb_586, tb_587, TX5, 2, rfl⟩
theorem tb_668 : Cond.methodLink RX9 94 yX8_isType ∈ zTB := zmem (i := 668) (by decide +kernel) rfl
theorem cv_X9_94 : zCV RX9 94 yX8_isType cX8_isType 2 (some .boolean) 1 8 := ⟨⟨tb_584, tb_115, tb_668, ⟨by decide, by decide, by decide +kernel⟩, by decide⟩, tb_582, tb_583, TX8, 2, rfl⟩
set_option maxRecDepth 20000 in
theorem tb_1335 : Cond.code yX10_isTrait cX10_isTrait 2 (some .boolean) ∈ zTB := zmem (i := 1335) rfl rfl
theorem tb_1332 : Cond.methodLink RX10 204 yX10_isTrait ∈ zTB := zmem (i := 1332) (by decide +kernel) rfl
theorem tb_1334 : Cond.instanceMethod yX10_isTrait ∈ zTB := zmem (i := 1334) (by decide +kernel) rfl
theorem tb_73 : Cond.selects yX10_isTrait.cls yX10_isTrait yX10_isTrait ∈ zTB := zmem (i := 73) (by decide +kernel) rfl
theorem cv_X10_204 : zCV RX10 204 yX10_isTrait cX10_isTrait 2 (some .boolean) 1 10 := ⟨⟨tb_1335, tb_124, tb_1332, ⟨by decide, by decide, by decide +kernel⟩, by decide⟩, tb_1334, tb_73, TX10, 29, rfl⟩
set_option maxRecDepth 20000 in
theorem tb_1331 : Cond.code yX10_isUnit cX10_isUnit 2 (some .boolean) ∈ zTB := zmem (i := 1331) rfl rfl
theorem tb_1328 : Cond.methodLink RX10 201 yX10_isUnit ∈ zTB := zmem (i := 1328) (by decide +kernel) rfl
theorem tb_1330 : Cond.instanceMethod yX10_isUnit ∈ zTB := zmem (i := 1330) (by decide +kernel) rfl
theorem tb_72 : Cond.selects yX10_isUnit.cls yX10_isUnit yX10_isUnit ∈ zTB := zmem (i := 72) (by decide +kernel) rfl
theorem cv_X10_201 : zCV RX10 201 yX10_isUnit cX10_isUnit 2 (some .boolean) 1 10 := ⟨⟨tb_1331, tb_124, tb_1328, ⟨by decide, by decide, by decide +kernel⟩, by decide⟩, tb_1330, tb_72, TX10, 29, rfl⟩
set_option maxRecDepth 20000 in
theorem tb_1347 : Cond.code yX10_parentOf cX10_parentOf 3 (some .int) ∈ zTB := zmem (i := 1347) rfl rfl
theorem tb_1344 : Cond.methodLink RX10 240 yX10_parentOf ∈ zTB := zmem (i := 1344) (by decide +kernel) rfl
theorem tb_1346 : Cond.instanceMethod yX10_parentOf ∈ zTB := zmem (i := 1346) (by decide +kernel) rfl
theorem tb_76 : Cond.selects yX10_parentOf.cls yX10_parentOf yX10_parentOf ∈ zTB := zmem (i := 76) (by decide +kernel) rfl
theorem cv_X10_240 : zCV RX10 240 yX10_parentOf cX10_parentOf 3 (some .int) 2 10 := ⟨⟨tb_1347, tb_124, tb_1344, ⟨by decide, by decide, by decide +kernel⟩, by decide⟩, tb_1346, tb_76, TX10, 29, rfl⟩
set_option maxRecDepth 20000 in
theorem tb_1343 : Cond.code yX10_parents cX10_parents 2 (some .int) ∈ zTB := zmem (i := 1343) rfl rfl
theorem tb_1340 : Cond.methodLink RX10 237 yX10_parents ∈ zTB := zmem (i := 1340) (by decide +kernel) rfl
theorem tb_1342 : Cond.instanceMethod yX10_parents ∈ zTB := zmem (i := 1342) (by decide +kernel) rfl
theorem tb_75 : Cond.selects yX10_parents.cls yX10_parents yX10_parents ∈ zTB := zmem (i := 75) (by decide +kernel) rfl
theorem cv_X10_237 : zCV RX10 237 yX10_parents cX10_parents 2 (some .int) 1 10 := ⟨⟨tb_1343, tb_124, tb_1340, ⟨by decide, by decide, by decide +kernel⟩, by decide⟩, tb_1342, tb_75, TX10, 29, rfl⟩
theorem fl_X10_198 : zFL RX10 198 10 5 := ⟨RX10, TX10, 29, rfl, uw_10, by decide, rfl, tb_1101⟩
theorem tb_1098 : Cond.fieldLink RX10 18 "TraitLinesModel" "past" "[I" ∈ zTB := zmem (i := 1098) (by decide +kernel) rfl
theorem fl_X10_18 : zFL RX10 18 10 2 := ⟨RX10, TX10, 29, rfl, uw_10, by decide, rfl, tb_1098⟩
set_option maxRecDepth 20000 in
theorem tb_1351 : Cond.code yX10_keepsPast cX10_keepsPast 2 none ∈ zTB := zmem (i := 1351) rfl rfl
theorem tb_1348 : Cond.methodLink RX10 264 yX10_keepsPast ∈ zTB := zmem (i := 1348) (by decide +kernel) rfl
theorem tb_1350 : Cond.instanceMethod yX10_keepsPast ∈ zTB := zmem (i := 1350) (by decide +kernel) rfl
theorem tb_77 : Cond.selects yX10_keepsPast.cls yX10_keepsPast yX10_keepsPast ∈ zTB := zmem (i := 77) (by decide +kernel) rfl
theorem cv_X10_264 : zCV RX10 264 yX10_keepsPast cX10_keepsPast 2 none 0 10 := ⟨⟨tb_1351, tb_124, tb_1348, ⟨by decide, by decide, by decide +kernel⟩, by decide⟩, tb_1350, tb_77, TX10, 29, rfl⟩
set_option maxRecDepth 20000 in
theorem tb_1339 : Cond.code yX10_placeOf cX10_placeOf 4 (some .int) ∈ zTB := zmem (i := 1339) rfl rfl
theorem tb_1336 : Cond.methodLink RX10 261 yX10_placeOf ∈ zTB := zmem (i := 1336) (by decide +kernel) rfl
theorem tb_1338 : Cond.instanceMethod yX10_placeOf ∈ zTB := zmem (i := 1338) (by decide +kernel) rfl
theorem tb_74 : Cond.selects yX10_placeOf.cls yX10_placeOf yX10_placeOf ∈ zTB := zmem (i := 74) (by decide +kernel) rfl
theorem cv_X10_261 : zCV RX10 261 yX10_placeOf cX10_placeOf 4 (some .int) 2 10 := ⟨⟨tb_1339, tb_124, tb_1336, ⟨by decide, by decide, by decide +kernel⟩, by decide⟩, tb_1338, tb_74, TX10, 29, rfl⟩
set_option maxRecDepth 20000 in
theorem tb_1327 : Cond.code yX10_isType cX10_isType 2 (some .boolean) ∈ zTB := zmem (i := 1327) rfl rfl
theorem tb_1324 : Cond.methodLink RX10 258 yX10_isType ∈ zTB := zmem (i := 1324) (by decide +kernel) rfl
theorem tb_1326 : Cond.instanceMethod yX10_isType ∈ zTB := zmem (i := 1326) (by decide +kernel) rfl
theorem tb_71 : Cond.selects yX10_isType.cls yX10_isType yX10_isType ∈ zTB := zmem (i := 71) (by decide +kernel) rfl
theorem cv_X10_258 : zCV RX10 258 yX10_isType cX10_isType 2 (some .boolean) 1 10 := ⟨⟨tb_1327, tb_124, tb_1324, ⟨by decide, by decide, by decide +kernel⟩, by decide⟩, tb_1326, tb_71, TX10, 29, rfl⟩
set_option maxRecDepth 20000 in
theorem tb_699 : Cond.code yX5_removeAt cX5_removeAt 3 none ∈ zTB := zmem (i := 699) rfl rfl
theorem tb_696 : Cond.methodLink RX9 121 yX5_removeAt ∈ zTB := zmem (i := 696) (by decide +kernel) rfl
theorem tb_697 : Cond.instanceMethod yX5_removeAt ∈ zTB := zmem (i := 697) (by decide +kernel) rfl
theorem tb_698 : Cond.selects yX5_removeAt.cls yX5_removeAt yX5_removeAt ∈ zTB := zmem (i := 698) (by decide +kernel) rfl
theorem cv_X9_121 : zCV RX9 121 yX5_removeAt cX5_removeAt 3 none 1 5 := ⟨⟨tb_699, tb_117, tb_696, ⟨by decide, by decide, by decide +kernel⟩, by decide⟩, tb_697, tb_698, TX5, 2, rfl⟩
set_option maxRecDepth 20000 in
theorem tb_707 : Cond.code yX5_reverse cX5_reverse 4 none ∈ zTB := zmem (i := 707) rfl rfl
theorem tb_704 : Cond.methodLink RX9 124 yX5_reverse ∈ zTB := zmem (i := 704) (by decide +kernel) rfl
theorem tb_705 : Cond.instanceMethod yX5_reverse ∈ zTB := zmem (i := 705) (by decide +kernel) rfl
theorem tb_706 : Cond.selects yX5_reverse.cls yX5_reverse yX5_reverse ∈ zTB := zmem (i := 706) (by decide +kernel) rfl
theorem cv_X9_124 : zCV RX9 124 yX5_reverse cX5_reverse 4 none 0 5 := ⟨⟨tb_707, tb_117, tb_704, ⟨by decide, by decide, by decide +kernel⟩, by decide⟩, tb_705, tb_706, TX5, 2, rfl⟩
theorem tb_200 : Cond.fieldLink RX9 133 "TraitLines$Unit" "termCounts" "[I" ∈ zTB := zmem (i := 200) (by decide +kernel) rfl
theorem fl_X9_133 : zFL RX9 133 7 6 := ⟨RX7, TX7, 9, rfl, uw_7, by decide, rfl, tb_200⟩
theorem tb_725 : Cond.methodLink RX9 157 yX7_require ∈ zTB := zmem (i := 725) (by decide +kernel) rfl
theorem cv_X9_157 : zCV RX9 157 yX7_require cX7_require 2 none 1 7 := ⟨⟨tb_633, tb_116, tb_725, ⟨by decide, by decide, by decide +kernel⟩, by decide⟩, tb_631, tb_632, TX7, 9, rfl⟩
theorem tb_186 : Cond.fieldLink RX9 154 "TraitLines$Unit" "members" "I" ∈ zTB := zmem (i := 186) (by decide +kernel) rfl
theorem fl_X9_154 : zFL RX9 154 7 2 := ⟨RX7, TX7, 9, rfl, uw_7, by decide, rfl, tb_186⟩
theorem tb_724 : Cond.methodLink RX9 151 yX7_tells ∈ zTB := zmem (i := 724) (by decide +kernel) rfl
theorem cv_X9_151 : zCV RX9 151 yX7_tells cX7_tells 2 (some .boolean) 1 7 := ⟨⟨tb_629, tb_116, tb_724, ⟨by decide, by decide, by decide +kernel⟩, by decide⟩, tb_627, tb_628, TX7, 9, rfl⟩
theorem tb_726 : Cond.methodLink RX9 144 yX7_addTerm ∈ zTB := zmem (i := 726) (by decide +kernel) rfl
theorem cv_X9_144 : zCV RX9 144 yX7_addTerm cX7_addTerm 4 none 2 7 := ⟨⟨tb_651, tb_116, tb_726, ⟨by decide, by decide, by decide +kernel⟩, by decide⟩, tb_649, tb_650, TX7, 9, rfl⟩
set_option maxRecDepth 20000 in
theorem tb_723 : Cond.code yX9_beginMember cX9_beginMember 5 (some .int) ∈ zTB := zmem (i := 723) rfl rfl
theorem tb_720 : Cond.methodLink RX9 141 yX9_beginMember ∈ zTB := zmem (i := 720) (by decide +kernel) rfl
theorem tb_722 : Cond.instanceMethod yX9_beginMember ∈ zTB := zmem (i := 722) (by decide +kernel) rfl
theorem tb_19 : Cond.selects yX9_beginMember.cls yX9_beginMember yX9_beginMember ∈ zTB := zmem (i := 19) (by decide +kernel) rfl
theorem cv_X9_141 : zCV RX9 141 yX9_beginMember cX9_beginMember 5 (some .int) 2 9 := ⟨⟨tb_723, tb_114, tb_720, ⟨by decide, by decide, by decide +kernel⟩, by decide⟩, tb_722, tb_19, TX9, 13, rfl⟩
set_option maxRecDepth 20000 in
theorem tb_719 : Cond.code yX7_termAt cX7_termAt 3 (some .int) ∈ zTB := zmem (i := 719) rfl rfl
theorem tb_716 : Cond.methodLink RX9 137 yX7_termAt ∈ zTB := zmem (i := 716) (by decide +kernel) rfl
theorem tb_717 : Cond.instanceMethod yX7_termAt ∈ zTB := zmem (i := 717) (by decide +kernel) rfl
theorem tb_718 : Cond.selects yX7_termAt.cls yX7_termAt yX7_termAt ∈ zTB := zmem (i := 718) (by decide +kernel) rfl
theorem cv_X9_137 : zCV RX9 137 yX7_termAt cX7_termAt 3 (some .int) 2 7 := ⟨⟨tb_719, tb_116, tb_716, ⟨by decide, by decide, by decide +kernel⟩, by decide⟩, tb_717, tb_718, TX7, 9, rfl⟩
set_option maxRecDepth 20000 in
theorem tb_715 : Cond.code yX9_isLetter cX9_isLetter 1 (some .boolean) ∈ zTB := zmem (i := 715) rfl rfl
theorem tb_713 : Cond.methodLink RX9 130 yX9_isLetter ∈ zTB := zmem (i := 713) (by decide +kernel) rfl
theorem tb_714 : Cond.static yX9_isLetter ∈ zTB := zmem (i := 714) (by decide +kernel) rfl
theorem cs_X9_130 : zCS RX9 130 yX9_isLetter cX9_isLetter 1 (some .boolean) 1 := ⟨⟨tb_715, tb_114, tb_713, ⟨by decide, by decide, by decide +kernel⟩, by decide⟩, tb_714⟩
theorem tb_712 : Cond.methodLink RX9 127 yX8_isUnit ∈ zTB := zmem (i := 712) (by decide +kernel) rfl
theorem cv_X9_127 : zCV RX9 127 yX8_isUnit cX8_isUnit 2 (some .boolean) 1 8 := ⟨⟨tb_580, tb_115, tb_712, ⟨by decide, by decide, by decide +kernel⟩, by decide⟩, tb_578, tb_579, TX8, 2, rfl⟩
set_option maxRecDepth 20000 in
theorem tb_1375 : Cond.code yX10_owns cX10_owns 2 (some .int) ∈ zTB := zmem (i := 1375) rfl rfl
theorem tb_1372 : Cond.methodLink RX10 207 yX10_owns ∈ zTB := zmem (i := 1372) (by decide +kernel) rfl
theorem tb_1374 : Cond.instanceMethod yX10_owns ∈ zTB := zmem (i := 1374) (by decide +kernel) rfl
theorem tb_80 : Cond.selects yX10_owns.cls yX10_owns yX10_owns ∈ zTB := zmem (i := 80) (by decide +kernel) rfl
theorem cv_X10_207 : zCV RX10 207 yX10_owns cX10_owns 2 (some .int) 1 10 := ⟨⟨tb_1375, tb_124, tb_1372, ⟨by decide, by decide, by decide +kernel⟩, by decide⟩, tb_1374, tb_80, TX10, 29, rfl⟩
set_option maxRecDepth 20000 in
theorem tb_1371 : Cond.code yX10_ownOf cX10_ownOf 4 (some .int) ∈ zTB := zmem (i := 1371) rfl rfl
theorem tb_1368 : Cond.methodLink RX10 267 yX10_ownOf ∈ zTB := zmem (i := 1368) (by decide +kernel) rfl
theorem tb_1370 : Cond.instanceMethod yX10_ownOf ∈ zTB := zmem (i := 1370) (by decide +kernel) rfl
theorem tb_79 : Cond.selects yX10_ownOf.cls yX10_ownOf yX10_ownOf ∈ zTB := zmem (i := 79) (by decide +kernel) rfl
theorem cv_X10_267 : zCV RX10 267 yX10_ownOf cX10_ownOf 4 (some .int) 2 10 := ⟨⟨tb_1371, tb_124, tb_1368, ⟨by decide, by decide, by decide +kernel⟩, by decide⟩, tb_1370, tb_79, TX10, 29, rfl⟩
set_option maxRecDepth 20000 in
theorem tb_1367 : Cond.code yX10_tells cX10_tells 6 (some .int) ∈ zTB := zmem (i := 1367) rfl rfl
theorem tb_1364 : Cond.methodLink RX10 270 yX10_tells ∈ zTB := zmem (i := 1364) (by decide +kernel) rfl
theorem tb_1366 : Cond.instanceMethod yX10_tells ∈ zTB := zmem (i := 1366) (by decide +kernel) rfl
theorem tb_78 : Cond.selects yX10_tells.cls yX10_tells yX10_tells ∈ zTB := zmem (i := 78) (by decide +kernel) rfl
theorem cv_X10_270 : zCV RX10 270 yX10_tells cX10_tells 6 (some .int) 3 10 := ⟨⟨tb_1367, tb_124, tb_1364, ⟨by decide, by decide, by decide +kernel⟩, by decide⟩, tb_1366, tb_78, TX10, 29, rfl⟩
set_option maxRecDepth 20000 in
theorem tb_734 : Cond.code yX7_requires cX7_requires 2 (some .boolean) ∈ zTB := zmem (i := 734) rfl rfl
theorem tb_731 : Cond.methodLink RX9 148 yX7_requires ∈ zTB := zmem (i := 731) (by decide +kernel) rfl
theorem tb_732 : Cond.instanceMethod yX7_requires ∈ zTB := zmem (i := 732) (by decide +kernel) rfl
theorem tb_733 : Cond.selects yX7_requires.cls yX7_requires yX7_requires ∈ zTB := zmem (i := 733) (by decide +kernel) rfl
theorem cv_X9_148 : zCV RX9 148 yX7_requires cX7_requires 2 (some .boolean) 1 7 := ⟨⟨tb_734, tb_116, tb_731, ⟨by decide, by decide, by decide +kernel⟩, by decide⟩, tb_732, tb_733, TX7, 9, rfl⟩
set_option maxRecDepth 20000 in
theorem tb_742 : Cond.code yX7_forget cX7_forget 2 none ∈ zTB := zmem (i := 742) rfl rfl
theorem tb_739 : Cond.methodLink RX9 160 yX7_forget ∈ zTB := zmem (i := 739) (by decide +kernel) rfl
theorem tb_740 : Cond.instanceMethod yX7_forget ∈ zTB := zmem (i := 740) (by decide +kernel) rfl
theorem tb_741 : Cond.selects yX7_forget.cls yX7_forget yX7_forget ∈ zTB := zmem (i := 741) (by decide +kernel) rfl
theorem cv_X9_160 : zCV RX9 160 yX7_forget cX7_forget 2 none 1 7 := ⟨⟨tb_742, tb_116, tb_739, ⟨by decide, by decide, by decide +kernel⟩, by decide⟩, tb_740, tb_741, TX7, 9, rfl⟩
theorem tb_195 : Cond.fieldLink RX9 166 "TraitLines$Unit" "traits" "LTraitLines$Row;" ∈ zTB := zmem (i := 195) (by decide +kernel) rfl
theorem fl_X9_166 : zFL RX9 166 7 4 := ⟨RX7, TX7, 9, rfl, uw_7, by decide, rfl, tb_195⟩
theorem tb_748 : Cond.methodLink RX9 169 yX7_addTrait ∈ zTB := zmem (i := 748) (by decide +kernel) rfl
theorem cv_X9_169 : zCV RX9 169 yX7_addTrait cX7_addTrait 4 none 1 7 := ⟨⟨tb_601, tb_116, tb_748, ⟨by decide, by decide, by decide +kernel⟩, by decide⟩, tb_599, tb_600, TX7, 9, rfl⟩
theorem tb_747 : Cond.methodLink RX9 163 yX8_isTrait ∈ zTB := zmem (i := 747) (by decide +kernel) rfl
theorem cv_X9_163 : zCV RX9 163 yX8_isTrait cX8_isTrait 2 (some .boolean) 1 8 := ⟨⟨tb_576, tb_115, tb_747, ⟨by decide, by decide, by decide +kernel⟩, by decide⟩, tb_574, tb_575, TX8, 2, rfl⟩
set_option maxRecDepth 20000 in
theorem tb_1395 : Cond.code yX10_uses cX10_uses 2 (some .int) ∈ zTB := zmem (i := 1395) rfl rfl
theorem tb_1392 : Cond.methodLink RX10 210 yX10_uses ∈ zTB := zmem (i := 1392) (by decide +kernel) rfl
theorem tb_1394 : Cond.instanceMethod yX10_uses ∈ zTB := zmem (i := 1394) (by decide +kernel) rfl
theorem tb_82 : Cond.selects yX10_uses.cls yX10_uses yX10_uses ∈ zTB := zmem (i := 82) (by decide +kernel) rfl
theorem cv_X10_210 : zCV RX10 210 yX10_uses cX10_uses 2 (some .int) 1 10 := ⟨⟨tb_1395, tb_124, tb_1392, ⟨by decide, by decide, by decide +kernel⟩, by decide⟩, tb_1394, tb_82, TX10, 29, rfl⟩
set_option maxRecDepth 20000 in
theorem tb_1391 : Cond.code yX10_useOf cX10_useOf 4 (some .int) ∈ zTB := zmem (i := 1391) rfl rfl
theorem tb_1388 : Cond.methodLink RX10 273 yX10_useOf ∈ zTB := zmem (i := 1388) (by decide +kernel) rfl
theorem tb_1390 : Cond.instanceMethod yX10_useOf ∈ zTB := zmem (i := 1390) (by decide +kernel) rfl
theorem tb_81 : Cond.selects yX10_useOf.cls yX10_useOf yX10_useOf ∈ zTB := zmem (i := 81) (by decide +kernel) rfl
theorem cv_X10_273 : zCV RX10 273 yX10_useOf cX10_useOf 4 (some .int) 2 10 := ⟨⟨tb_1391, tb_124, tb_1388, ⟨by decide, by decide, by decide +kernel⟩, by decide⟩, tb_1390, tb_81, TX10, 29, rfl⟩
theorem tb_197 : Cond.fieldLink RX9 175 "TraitLines$Unit" "changes" "[I" ∈ zTB := zmem (i := 197) (by decide +kernel) rfl
theorem fl_X9_175 : zFL RX9 175 7 5 := ⟨RX7, TX7, 9, rfl, uw_7, by decide, rfl, tb_197⟩
theorem tb_757 : Cond.methodLink RX9 178 yX7_setLetterThere ∈ zTB := zmem (i := 757) (by decide +kernel) rfl
theorem cv_X9_178 : zCV RX9 178 yX7_setLetterThere cX7_setLetterThere 5 none 3 7 := ⟨⟨tb_621, tb_116, tb_757, ⟨by decide, by decide, by decide +kernel⟩, by decide⟩, tb_619, tb_620, TX7, 9, rfl⟩
set_option maxRecDepth 20000 in
theorem tb_756 : Cond.code yX7_letterThere cX7_letterThere 3 (some .int) ∈ zTB := zmem (i := 756) rfl rfl
theorem tb_753 : Cond.methodLink RX9 172 yX7_letterThere ∈ zTB := zmem (i := 753) (by decide +kernel) rfl
theorem tb_754 : Cond.instanceMethod yX7_letterThere ∈ zTB := zmem (i := 754) (by decide +kernel) rfl
theorem tb_755 : Cond.selects yX7_letterThere.cls yX7_letterThere yX7_letterThere ∈ zTB := zmem (i := 755) (by decide +kernel) rfl
theorem cv_X9_172 : zCV RX9 172 yX7_letterThere cX7_letterThere 3 (some .int) 2 7 := ⟨⟨tb_756, tb_116, tb_753, ⟨by decide, by decide, by decide +kernel⟩, by decide⟩, tb_754, tb_755, TX7, 9, rfl⟩
set_option maxRecDepth 20000 in
theorem tb_1407 : Cond.code yX10_changeAt cX10_changeAt 6 (some .int) ∈ zTB := zmem (i := 1407) rfl rfl
theorem tb_1404 : Cond.methodLink RX10 212 yX10_changeAt ∈ zTB := zmem (i := 1404) (by decide +kernel) rfl
theorem tb_1406 : Cond.instanceMethod yX10_changeAt ∈ zTB := zmem (i := 1406) (by decide +kernel) rfl
theorem tb_84 : Cond.selects yX10_changeAt.cls yX10_changeAt yX10_changeAt ∈ zTB := zmem (i := 84) (by decide +kernel) rfl
theorem cv_X10_212 : zCV RX10 212 yX10_changeAt cX10_changeAt 6 (some .int) 3 10 := ⟨⟨tb_1407, tb_124, tb_1404, ⟨by decide, by decide, by decide +kernel⟩, by decide⟩, tb_1406, tb_84, TX10, 29, rfl⟩
set_option maxRecDepth 20000 in
theorem tb_1403 : Cond.code yX10_becomesIn cX10_becomesIn 5 (some .int) ∈ zTB := zmem (i := 1403) rfl rfl
theorem tb_1400 : Cond.methodLink RX10 222 yX10_becomesIn ∈ zTB := zmem (i := 1400) (by decide +kernel) rfl
theorem tb_1402 : Cond.instanceMethod yX10_becomesIn ∈ zTB := zmem (i := 1402) (by decide +kernel) rfl
theorem tb_83 : Cond.selects yX10_becomesIn.cls yX10_becomesIn yX10_becomesIn ∈ zTB := zmem (i := 83) (by decide +kernel) rfl
theorem cv_X10_222 : zCV RX10 222 yX10_becomesIn cX10_becomesIn 5 (some .int) 3 10 := ⟨⟨tb_1403, tb_124, tb_1400, ⟨by decide, by decide, by decide +kernel⟩, by decide⟩, tb_1402, tb_83, TX10, 29, rfl⟩
theorem tb_285 : Cond.fieldLink RX9 186 "TraitLines$History" "size" "I" ∈ zTB := zmem (i := 285) (by decide +kernel) rfl
theorem fl_X9_186 : zFL RX9 186 1 3 := ⟨RX1, TX1, 4, rfl, uw_1, by decide, rfl, tb_285⟩
theorem tb_226 : Cond.fieldLink RX1 39 "TraitLines$World" "units" "[LTraitLines$Unit;" ∈ zTB := zmem (i := 226) (by decide +kernel) rfl
theorem fl_X1_39 : zFL RX1 39 8 0 := ⟨RX8, TX8, 2, rfl, uw_8, by decide, rfl, tb_226⟩
set_option maxRecDepth 20000 in
theorem tb_765 : Cond.code yX1_restoreLast cX1_restoreLast 2 none ∈ zTB := zmem (i := 765) rfl rfl
theorem tb_762 : Cond.methodLink RX9 187 yX1_restoreLast ∈ zTB := zmem (i := 762) (by decide +kernel) rfl
theorem tb_763 : Cond.instanceMethod yX1_restoreLast ∈ zTB := zmem (i := 763) (by decide +kernel) rfl
theorem tb_764 : Cond.selects yX1_restoreLast.cls yX1_restoreLast yX1_restoreLast ∈ zTB := zmem (i := 764) (by decide +kernel) rfl
theorem cv_X9_187 : zCV RX9 187 yX1_restoreLast cX1_restoreLast 2 none 1 1 := ⟨⟨tb_765, tb_119, tb_762, ⟨by decide, by decide, by decide +kernel⟩, by decide⟩, tb_763, tb_764, TX1, 4, rfl⟩
theorem tb_424 : Cond.fieldLink RX9 23 "TraitLines" "shelves" "[LTraitLines$World;" ∈ zTB := zmem (i := 424) (by decide +kernel) rfl
theorem fl_X9_23 : zFL RX9 23 9 4 := ⟨RX9, TX9, 13, rfl, uw_9, by decide, rfl, tb_424⟩
theorem fw_X8_18 : zFW RX8 18 8 1 .int := ⟨RX8, TX8, 2, tyX8, rfl, uw_8, by decide, rfl, tb_231, tyX8_ok, nmX8, rfl, by decide +kernel⟩
theorem tb_774 : Cond.methodLink RX8 33 yX7_copyFrom ∈ zTB := zmem (i := 774) (by decide +kernel) rfl
theorem cv_X8_33 : zCV RX8 33 yX7_copyFrom cX7_copyFrom 2 none 1 7 := ⟨⟨tb_681, tb_116, tb_774, ⟨by decide, by decide, by decide +kernel⟩, by decide⟩, tb_679, tb_680, TX7, 9, rfl⟩
theorem tb_425 : Cond.fieldLink RX9 194 "TraitLines" "keptBits" "I" ∈ zTB := zmem (i := 425) (by decide +kernel) rfl
theorem fl_X9_194 : zFL RX9 194 9 5 := ⟨RX9, TX9, 13, rfl, uw_9, by decide, rfl, tb_425⟩
theorem fw_X9_194 : zFW RX9 194 9 5 .int := ⟨RX9, TX9, 13, tyX9, rfl, uw_9, by decide, rfl, tb_425, tyX9_ok, nmX9, rfl, by decide +kernel⟩
set_option maxRecDepth 20000 in
theorem tb_773 : Cond.code yX8_copyFrom cX8_copyFrom 3 none ∈ zTB := zmem (i := 773) rfl rfl
theorem tb_770 : Cond.methodLink RX9 191 yX8_copyFrom ∈ zTB := zmem (i := 770) (by decide +kernel) rfl
theorem tb_771 : Cond.instanceMethod yX8_copyFrom ∈ zTB := zmem (i := 771) (by decide +kernel) rfl
theorem tb_772 : Cond.selects yX8_copyFrom.cls yX8_copyFrom yX8_copyFrom ∈ zTB := zmem (i := 772) (by decide +kernel) rfl
theorem cv_X9_191 : zCV RX9 191 yX8_copyFrom cX8_copyFrom 3 none 1 8 := ⟨⟨tb_773, tb_115, tb_770, ⟨by decide, by decide, by decide +kernel⟩, by decide⟩, tb_771, tb_772, TX8, 2, rfl⟩
theorem tb_1099 : Cond.fieldLink RX10 21 "TraitLinesModel" "shelf" "[I" ∈ zTB := zmem (i := 1099) (by decide +kernel) rfl
theorem fl_X10_21 : zFL RX10 21 10 3 := ⟨RX10, TX10, 29, rfl, uw_10, by decide, rfl, tb_1099⟩
theorem tb_1100 : Cond.fieldLink RX10 24 "TraitLinesModel" "isKept" "[Z" ∈ zTB := zmem (i := 1100) (by decide +kernel) rfl
theorem fl_X10_24 : zFL RX10 24 10 4 := ⟨RX10, TX10, 29, rfl, uw_10, by decide, rfl, tb_1100⟩
theorem tb_779 : Cond.methodLink RX9 197 yX9_hasBit ∈ zTB := zmem (i := 779) (by decide +kernel) rfl
theorem cs_X9_197 : zCS RX9 197 yX9_hasBit cX9_hasBit 2 (some .boolean) 2 := ⟨⟨tb_617, tb_114, tb_779, ⟨by decide, by decide, by decide +kernel⟩, by decide⟩, tb_616⟩
theorem fl_X9_90 : zFL RX9 90 9 12 := ⟨RX9, TX9, 13, rfl, uw_9, by decide, rfl, tb_432⟩
theorem tb_428 : Cond.fieldLink RX9 44 "TraitLines" "flats" "LTraitLines$Flats;" ∈ zTB := zmem (i := 428) (by decide +kernel) rfl
theorem fl_X9_44 : zFL RX9 44 9 8 := ⟨RX9, TX9, 13, rfl, uw_9, by decide, rfl, tb_428⟩
theorem tb_301 : Cond.fieldLink RX0 9 "TraitLines$Flats" "kinds" "[I" ∈ zTB := zmem (i := 301) (by decide +kernel) rfl
theorem uw_0 : ∀ w ∈ u_ws RX0 TX0 3, w ∈ zTB := by decide +kernel
theorem fl_X0_9 : zFL RX0 9 0 0 := ⟨RX0, TX0, 3, rfl, uw_0, by decide, rfl, tb_301⟩
theorem tb_232 : Cond.fieldLink RX0 27 "TraitLines$World" "size" "I" ∈ zTB := zmem (i := 232) (by decide +kernel) rfl
theorem fl_X0_27 : zFL RX0 27 8 1 := ⟨RX8, TX8, 2, rfl, uw_8, by decide, rfl, tb_232⟩
theorem tb_223 : Cond.fieldLink RX0 33 "TraitLines$World" "units" "[LTraitLines$Unit;" ∈ zTB := zmem (i := 223) (by decide +kernel) rfl
theorem fl_X0_33 : zFL RX0 33 8 0 := ⟨RX8, TX8, 2, rfl, uw_8, by decide, rfl, tb_223⟩
theorem tb_801 : Cond.methodLink RX0 58 yX7_requires ∈ zTB := zmem (i := 801) (by decide +kernel) rfl
theorem cv_X0_58 : zCV RX0 58 yX7_requires cX7_requires 2 (some .boolean) 1 7 := ⟨⟨tb_734, tb_116, tb_801, ⟨by decide, by decide, by decide +kernel⟩, by decide⟩, tb_732, tb_733, TX7, 9, rfl⟩
theorem tb_302 : Cond.fieldLink RX0 15 "TraitLines$Flats" "firsts" "[I" ∈ zTB := zmem (i := 302) (by decide +kernel) rfl
theorem fl_X0_15 : zFL RX0 15 0 1 := ⟨RX0, TX0, 3, rfl, uw_0, by decide, rfl, tb_302⟩
set_option maxRecDepth 20000 in
theorem tb_800 : Cond.code yX7_hasBody cX7_hasBody 2 (some .boolean) ∈ zTB := zmem (i := 800) rfl rfl
theorem tb_797 : Cond.methodLink RX0 54 yX7_hasBody ∈ zTB := zmem (i := 797) (by decide +kernel) rfl
theorem tb_798 : Cond.instanceMethod yX7_hasBody ∈ zTB := zmem (i := 798) (by decide +kernel) rfl
theorem tb_799 : Cond.selects yX7_hasBody.cls yX7_hasBody yX7_hasBody ∈ zTB := zmem (i := 799) (by decide +kernel) rfl
theorem cv_X0_54 : zCV RX0 54 yX7_hasBody cX7_hasBody 2 (some .boolean) 1 7 := ⟨⟨tb_800, tb_116, tb_797, ⟨by decide, by decide, by decide +kernel⟩, by decide⟩, tb_798, tb_799, TX7, 9, rfl⟩
theorem tb_193 : Cond.fieldLink RX0 41 "TraitLines$Unit" "traits" "LTraitLines$Row;" ∈ zTB := zmem (i := 193) (by decide +kernel) rfl
theorem fl_X0_41 : zFL RX0 41 7 4 := ⟨RX7, TX7, 9, rfl, uw_7, by decide, rfl, tb_193⟩
theorem tb_167 : Cond.fieldLink RX0 47 "TraitLines$Row" "size" "I" ∈ zTB := zmem (i := 167) (by decide +kernel) rfl
theorem fl_X0_47 : zFL RX0 47 5 1 := ⟨RX5, TX5, 2, rfl, uw_5, by decide, rfl, tb_167⟩
theorem tb_303 : Cond.fieldLink RX0 18 "TraitLines$Flats" "seconds" "[I" ∈ zTB := zmem (i := 303) (by decide +kernel) rfl
theorem fl_X0_18 : zFL RX0 18 0 2 := ⟨RX0, TX0, 3, rfl, uw_0, by decide, rfl, tb_303⟩
set_option maxRecDepth 20000 in
theorem tb_818 : Cond.code yX0_addSource cX0_addSource 3 none ∈ zTB := zmem (i := 818) rfl rfl
theorem tb_120 : Cond.initialized RX0 ∈ zTB := zmem (i := 120) (by decide +kernel) rfl
theorem tb_815 : Cond.methodLink RX0 73 yX0_addSource ∈ zTB := zmem (i := 815) (by decide +kernel) rfl
theorem tb_817 : Cond.instanceMethod yX0_addSource ∈ zTB := zmem (i := 817) (by decide +kernel) rfl
theorem tb_24 : Cond.selects yX0_addSource.cls yX0_addSource yX0_addSource ∈ zTB := zmem (i := 24) (by decide +kernel) rfl
theorem cv_X0_73 : zCV RX0 73 yX0_addSource cX0_addSource 3 none 2 0 := ⟨⟨tb_818, tb_120, tb_815, ⟨by decide, by decide, by decide +kernel⟩, by decide⟩, tb_817, tb_24, TX0, 3, rfl⟩
set_option maxRecDepth 20000 in
theorem tb_814 : Cond.code yX0_layOver cX0_layOver 4 none ∈ zTB := zmem (i := 814) rfl rfl
theorem tb_811 : Cond.methodLink RX0 69 yX0_layOver ∈ zTB := zmem (i := 811) (by decide +kernel) rfl
theorem tb_813 : Cond.instanceMethod yX0_layOver ∈ zTB := zmem (i := 813) (by decide +kernel) rfl
theorem tb_23 : Cond.selects yX0_layOver.cls yX0_layOver yX0_layOver ∈ zTB := zmem (i := 23) (by decide +kernel) rfl
theorem cv_X0_69 : zCV RX0 69 yX0_layOver cX0_layOver 4 none 2 0 := ⟨⟨tb_814, tb_120, tb_811, ⟨by decide, by decide, by decide +kernel⟩, by decide⟩, tb_813, tb_23, TX0, 3, rfl⟩
theorem tb_810 : Cond.methodLink RX0 65 yX7_letterThere ∈ zTB := zmem (i := 810) (by decide +kernel) rfl
theorem cv_X0_65 : zCV RX0 65 yX7_letterThere cX7_letterThere 3 (some .int) 2 7 := ⟨⟨tb_756, tb_116, tb_810, ⟨by decide, by decide, by decide +kernel⟩, by decide⟩, tb_754, tb_755, TX7, 9, rfl⟩
set_option maxRecDepth 20000 in
theorem tb_809 : Cond.code yX5_itemAt cX5_itemAt 2 (some .int) ∈ zTB := zmem (i := 809) rfl rfl
theorem tb_806 : Cond.methodLink RX0 61 yX5_itemAt ∈ zTB := zmem (i := 806) (by decide +kernel) rfl
theorem tb_807 : Cond.instanceMethod yX5_itemAt ∈ zTB := zmem (i := 807) (by decide +kernel) rfl
theorem tb_808 : Cond.selects yX5_itemAt.cls yX5_itemAt yX5_itemAt ∈ zTB := zmem (i := 808) (by decide +kernel) rfl
theorem cv_X0_61 : zCV RX0 61 yX5_itemAt cX5_itemAt 2 (some .int) 1 5 := ⟨⟨tb_809, tb_117, tb_806, ⟨by decide, by decide, by decide +kernel⟩, by decide⟩, tb_807, tb_808, TX5, 2, rfl⟩
set_option maxRecDepth 20000 in
theorem tb_805 : Cond.code yX0_layTrait cX0_layTrait 7 none ∈ zTB := zmem (i := 805) rfl rfl
theorem tb_802 : Cond.methodLink RX0 50 yX0_layTrait ∈ zTB := zmem (i := 802) (by decide +kernel) rfl
theorem tb_804 : Cond.instanceMethod yX0_layTrait ∈ zTB := zmem (i := 804) (by decide +kernel) rfl
theorem tb_22 : Cond.selects yX0_layTrait.cls yX0_layTrait yX0_layTrait ∈ zTB := zmem (i := 22) (by decide +kernel) rfl
theorem cv_X0_50 : zCV RX0 50 yX0_layTrait cX0_layTrait 7 none 3 0 := ⟨⟨tb_805, tb_120, tb_802, ⟨by decide, by decide, by decide +kernel⟩, by decide⟩, tb_804, tb_22, TX0, 3, rfl⟩
set_option maxRecDepth 20000 in
theorem tb_796 : Cond.code yX0_layOwn cX0_layOwn 5 none ∈ zTB := zmem (i := 796) rfl rfl
theorem tb_793 : Cond.methodLink RX0 37 yX0_layOwn ∈ zTB := zmem (i := 793) (by decide +kernel) rfl
theorem tb_795 : Cond.instanceMethod yX0_layOwn ∈ zTB := zmem (i := 795) (by decide +kernel) rfl
theorem tb_21 : Cond.selects yX0_layOwn.cls yX0_layOwn yX0_layOwn ∈ zTB := zmem (i := 21) (by decide +kernel) rfl
theorem cv_X0_37 : zCV RX0 37 yX0_layOwn cX0_layOwn 5 none 2 0 := ⟨⟨tb_796, tb_120, tb_793, ⟨by decide, by decide, by decide +kernel⟩, by decide⟩, tb_795, tb_21, TX0, 3, rfl⟩
theorem tb_792 : Cond.methodLink RX0 21 yJ7_fill_53178 ∈ zTB := zmem (i := 792) (by decide +kernel) rfl
theorem cs_X0_21 : zCS RX0 21 yJ7_fill_53178 cJ7_fill_53178 4 none 2 := ⟨⟨tb_563, tb_130, tb_792, ⟨by decide, by decide, by decide +kernel⟩, by decide⟩, tb_562⟩
theorem tb_429 : Cond.fieldLink RX9 51 "TraitLines" "lines" "LTraitLines$Lines;" ∈ zTB := zmem (i := 429) (by decide +kernel) rfl
theorem fl_X9_51 : zFL RX9 51 9 9 := ⟨RX9, TX9, 13, rfl, uw_9, by decide, rfl, tb_429⟩
theorem tb_230 : Cond.fieldLink RX2 41 "TraitLines$World" "size" "I" ∈ zTB := zmem (i := 230) (by decide +kernel) rfl
theorem fl_X2_41 : zFL RX2 41 8 1 := ⟨RX8, TX8, 2, rfl, uw_8, by decide, rfl, tb_230⟩
theorem tb_322 : Cond.fieldLink RX2 16 "TraitLines$Lines" "lengths" "[I" ∈ zTB := zmem (i := 322) (by decide +kernel) rfl
theorem uw_2 : ∀ w ∈ u_ws RX2 TX2 10, w ∈ zTB := by decide +kernel
theorem fl_X2_16 : zFL RX2 16 2 1 := ⟨RX2, TX2, 10, rfl, uw_2, by decide, rfl, tb_322⟩
theorem tb_327 : Cond.fieldLink RX2 23 "TraitLines$Lines" "ringLengths" "[I" ∈ zTB := zmem (i := 327) (by decide +kernel) rfl
theorem fl_X2_23 : zFL RX2 23 2 3 := ⟨RX2, TX2, 10, rfl, uw_2, by decide, rfl, tb_327⟩
theorem tb_329 : Cond.fieldLink RX2 26 "TraitLines$Lines" "overBits" "[I" ∈ zTB := zmem (i := 329) (by decide +kernel) rfl
theorem fl_X2_26 : zFL RX2 26 2 4 := ⟨RX2, TX2, 10, rfl, uw_2, by decide, rfl, tb_329⟩
theorem tb_225 : Cond.fieldLink RX2 51 "TraitLines$World" "units" "[LTraitLines$Unit;" ∈ zTB := zmem (i := 225) (by decide +kernel) rfl
theorem fl_X2_51 : zFL RX2 51 8 0 := ⟨RX8, TX8, 2, rfl, uw_8, by decide, rfl, tb_225⟩
theorem tb_189 : Cond.fieldLink RX2 55 "TraitLines$Unit" "parents" "LTraitLines$Row;" ∈ zTB := zmem (i := 189) (by decide +kernel) rfl
theorem fl_X2_55 : zFL RX2 55 7 3 := ⟨RX7, TX7, 9, rfl, uw_7, by decide, rfl, tb_189⟩
theorem tb_168 : Cond.fieldLink RX2 73 "TraitLines$Row" "size" "I" ∈ zTB := zmem (i := 168) (by decide +kernel) rfl
theorem fl_X2_73 : zFL RX2 73 5 1 := ⟨RX5, TX5, 2, rfl, uw_5, by decide, rfl, tb_168⟩
theorem tb_164 : Cond.fieldLink RX2 76 "TraitLines$Row" "items" "[I" ∈ zTB := zmem (i := 164) (by decide +kernel) rfl
theorem fl_X2_76 : zFL RX2 76 5 0 := ⟨RX5, TX5, 2, rfl, uw_5, by decide, rfl, tb_164⟩
theorem tb_335 : Cond.fieldLink RX2 79 "TraitLines$Lines" "rowCount" "I" ∈ zTB := zmem (i := 335) (by decide +kernel) rfl
theorem fw_X2_79 : zFW RX2 79 2 9 .int := ⟨RX2, TX2, 10, tyX2, rfl, uw_2, by decide, rfl, tb_335, tyX2_ok, nmX2, rfl, by decide +kernel⟩
theorem tb_319 : Cond.fieldLink RX2 11 "TraitLines$Lines" "lines" "[[I" ∈ zTB := zmem (i := 319) (by decide +kernel) rfl
theorem fl_X2_11 : zFL RX2 11 2 0 := ⟨RX2, TX2, 10, rfl, uw_2, by decide, rfl, tb_319⟩
theorem tb_331 : Cond.fieldLink RX2 29 "TraitLines$Lines" "rows" "[[I" ∈ zTB := zmem (i := 331) (by decide +kernel) rfl
theorem fl_X2_29 : zFL RX2 29 2 5 := ⟨RX2, TX2, 10, rfl, uw_2, by decide, rfl, tb_331⟩
theorem tb_332 : Cond.fieldLink RX2 32 "TraitLines$Lines" "heads" "[I" ∈ zTB := zmem (i := 332) (by decide +kernel) rfl
theorem fl_X2_32 : zFL RX2 32 2 6 := ⟨RX2, TX2, 10, rfl, uw_2, by decide, rfl, tb_332⟩
theorem tb_333 : Cond.fieldLink RX2 35 "TraitLines$Lines" "ends" "[I" ∈ zTB := zmem (i := 333) (by decide +kernel) rfl
theorem fl_X2_35 : zFL RX2 35 2 7 := ⟨RX2, TX2, 10, rfl, uw_2, by decide, rfl, tb_333⟩
theorem tb_832 : Cond.methodLink RX2 82 arraycopyName ∈ zTB := zmem (i := 832) (by decide +kernel) rfl
theorem ca_X2_82 : zCA RX2 82 := ⟨tb_832, tb_688, tb_687, tb_131⟩
theorem fl_X2_79 : zFL RX2 79 2 9 := ⟨RX2, TX2, 10, rfl, uw_2, by decide, rfl, tb_335⟩
set_option maxRecDepth 20000 in
theorem tb_844 : Cond.code yX2_rowWithInTail cX2_rowWithInTail 4 (some .int) ∈ zTB := zmem (i := 844) rfl rfl
theorem tb_121 : Cond.initialized RX2 ∈ zTB := zmem (i := 121) (by decide +kernel) rfl
theorem tb_841 : Cond.methodLink RX2 102 yX2_rowWithInTail ∈ zTB := zmem (i := 841) (by decide +kernel) rfl
theorem tb_843 : Cond.instanceMethod yX2_rowWithInTail ∈ zTB := zmem (i := 843) (by decide +kernel) rfl
theorem tb_29 : Cond.selects yX2_rowWithInTail.cls yX2_rowWithInTail yX2_rowWithInTail ∈ zTB := zmem (i := 29) (by decide +kernel) rfl
theorem cv_X2_102 : zCV RX2 102 yX2_rowWithInTail cX2_rowWithInTail 4 (some .int) 1 2 := ⟨⟨tb_844, tb_121, tb_841, ⟨by decide, by decide, by decide +kernel⟩, by decide⟩, tb_843, tb_29, TX2, 10, rfl⟩
set_option maxRecDepth 20000 in
theorem tb_840 : Cond.code yX2_freeHead cX2_freeHead 3 (some .int) ∈ zTB := zmem (i := 840) rfl rfl
theorem tb_837 : Cond.methodLink RX2 88 yX2_freeHead ∈ zTB := zmem (i := 837) (by decide +kernel) rfl
theorem tb_839 : Cond.instanceMethod yX2_freeHead ∈ zTB := zmem (i := 839) (by decide +kernel) rfl
theorem tb_28 : Cond.selects yX2_freeHead.cls yX2_freeHead yX2_freeHead ∈ zTB := zmem (i := 28) (by decide +kernel) rfl
theorem cv_X2_88 : zCV RX2 88 yX2_freeHead cX2_freeHead 3 (some .int) 0 2 := ⟨⟨tb_840, tb_121, tb_837, ⟨by decide, by decide, by decide +kernel⟩, by decide⟩, tb_839, tb_28, TX2, 10, rfl⟩
set_option maxRecDepth 20000 in
theorem tb_848 : Cond.code yX2_dropHead cX2_dropHead 3 none ∈ zTB := zmem (i := 848) rfl rfl
theorem tb_845 : Cond.methodLink RX2 92 yX2_dropHead ∈ zTB := zmem (i := 845) (by decide +kernel) rfl
theorem tb_847 : Cond.instanceMethod yX2_dropHead ∈ zTB := zmem (i := 847) (by decide +kernel) rfl
theorem tb_30 : Cond.selects yX2_dropHead.cls yX2_dropHead yX2_dropHead ∈ zTB := zmem (i := 30) (by decide +kernel) rfl
theorem cv_X2_92 : zCV RX2 92 yX2_dropHead cX2_dropHead 3 none 1 2 := ⟨⟨tb_848, tb_121, tb_845, ⟨by decide, by decide, by decide +kernel⟩, by decide⟩, tb_847, tb_30, TX2, 10, rfl⟩
theorem tb_334 : Cond.fieldLink RX2 38 "TraitLines$Lines" "path" "[I" ∈ zTB := zmem (i := 334) (by decide +kernel) rfl
theorem fl_X2_38 : zFL RX2 38 2 8 := ⟨RX2, TX2, 10, rfl, uw_2, by decide, rfl, tb_334⟩
theorem cn_X2_106 : zCN RX2 106 cX9_hasBit 2 (some .boolean) := ⟨tb_617, tb_114, by decide, tb_616, by decide⟩
theorem tb_325 : Cond.fieldLink RX2 20 "TraitLines$Lines" "rings" "[[I" ∈ zTB := zmem (i := 325) (by decide +kernel) rfl
theorem fl_X2_20 : zFL RX2 20 2 2 := ⟨RX2, TX2, 10, rfl, uw_2, by decide, rfl, tb_325⟩
set_option maxRecDepth 20000 in
theorem tb_856 : Cond.code yX2_ringFrom cX2_ringFrom 7 none ∈ zTB := zmem (i := 856) rfl rfl
theorem tb_853 : Cond.methodLink RX2 98 yX2_ringFrom ∈ zTB := zmem (i := 853) (by decide +kernel) rfl
theorem tb_855 : Cond.instanceMethod yX2_ringFrom ∈ zTB := zmem (i := 855) (by decide +kernel) rfl
theorem tb_32 : Cond.selects yX2_ringFrom.cls yX2_ringFrom yX2_ringFrom ∈ zTB := zmem (i := 32) (by decide +kernel) rfl
theorem cv_X2_98 : zCV RX2 98 yX2_ringFrom cX2_ringFrom 7 none 2 2 := ⟨⟨tb_856, tb_121, tb_853, ⟨by decide, by decide, by decide +kernel⟩, by decide⟩, tb_855, tb_32, TX2, 10, rfl⟩
set_option maxRecDepth 20000 in
theorem tb_852 : Cond.code yX2_firstRowLeft cX2_firstRowLeft 2 (some .int) ∈ zTB := zmem (i := 852) rfl rfl
theorem tb_849 : Cond.methodLink RX2 95 yX2_firstRowLeft ∈ zTB := zmem (i := 849) (by decide +kernel) rfl
theorem tb_851 : Cond.instanceMethod yX2_firstRowLeft ∈ zTB := zmem (i := 851) (by decide +kernel) rfl
theorem tb_31 : Cond.selects yX2_firstRowLeft.cls yX2_firstRowLeft yX2_firstRowLeft ∈ zTB := zmem (i := 31) (by decide +kernel) rfl
theorem cv_X2_95 : zCV RX2 95 yX2_firstRowLeft cX2_firstRowLeft 2 (some .int) 0 2 := ⟨⟨tb_852, tb_121, tb_849, ⟨by decide, by decide, by decide +kernel⟩, by decide⟩, tb_851, tb_31, TX2, 10, rfl⟩
set_option maxRecDepth 20000 in
theorem tb_836 : Cond.code yX2_merge cX2_merge 5 none ∈ zTB := zmem (i := 836) rfl rfl
theorem tb_833 : Cond.methodLink RX2 69 yX2_merge ∈ zTB := zmem (i := 833) (by decide +kernel) rfl
theorem tb_835 : Cond.instanceMethod yX2_merge ∈ zTB := zmem (i := 835) (by decide +kernel) rfl
theorem tb_27 : Cond.selects yX2_merge.cls yX2_merge yX2_merge ∈ zTB := zmem (i := 27) (by decide +kernel) rfl
theorem cv_X2_69 : zCV RX2 69 yX2_merge cX2_merge 5 none 1 2 := ⟨⟨tb_836, tb_121, tb_833, ⟨by decide, by decide, by decide +kernel⟩, by decide⟩, tb_835, tb_27, TX2, 10, rfl⟩
set_option maxRecDepth 20000 in
theorem tb_831 : Cond.code yX2_loadRows cX2_loadRows 4 (some .boolean) ∈ zTB := zmem (i := 831) rfl rfl
theorem tb_828 : Cond.methodLink RX2 65 yX2_loadRows ∈ zTB := zmem (i := 828) (by decide +kernel) rfl
theorem tb_830 : Cond.instanceMethod yX2_loadRows ∈ zTB := zmem (i := 830) (by decide +kernel) rfl
theorem tb_26 : Cond.selects yX2_loadRows.cls yX2_loadRows yX2_loadRows ∈ zTB := zmem (i := 26) (by decide +kernel) rfl
theorem cv_X2_65 : zCV RX2 65 yX2_loadRows cX2_loadRows 4 (some .boolean) 1 2 := ⟨⟨tb_831, tb_121, tb_828, ⟨by decide, by decide, by decide +kernel⟩, by decide⟩, tb_830, tb_26, TX2, 10, rfl⟩
set_option maxRecDepth 20000 in
theorem tb_827 : Cond.code yX2_gatherOver cX2_gatherOver 5 none ∈ zTB := zmem (i := 827) rfl rfl
theorem tb_824 : Cond.methodLink RX2 61 yX2_gatherOver ∈ zTB := zmem (i := 824) (by decide +kernel) rfl
theorem tb_826 : Cond.instanceMethod yX2_gatherOver ∈ zTB := zmem (i := 826) (by decide +kernel) rfl
theorem tb_25 : Cond.selects yX2_gatherOver.cls yX2_gatherOver yX2_gatherOver ∈ zTB := zmem (i := 25) (by decide +kernel) rfl
theorem cv_X2_61 : zCV RX2 61 yX2_gatherOver cX2_gatherOver 5 none 2 2 := ⟨⟨tb_827, tb_121, tb_824, ⟨by decide, by decide, by decide +kernel⟩, by decide⟩, tb_826, tb_25, TX2, 10, rfl⟩
theorem tb_823 : Cond.methodLink RX2 47 yX8_isType ∈ zTB := zmem (i := 823) (by decide +kernel) rfl
theorem cv_X2_47 : zCV RX2 47 yX8_isType cX8_isType 2 (some .boolean) 1 8 := ⟨⟨tb_584, tb_115, tb_823, ⟨by decide, by decide, by decide +kernel⟩, by decide⟩, tb_582, tb_583, TX8, 2, rfl⟩
set_option maxRecDepth 20000 in
theorem tb_822 : Cond.code yX2_mergeAll cX2_mergeAll 4 none ∈ zTB := zmem (i := 822) rfl rfl
theorem tb_819 : Cond.methodLink RX9 349 yX2_mergeAll ∈ zTB := zmem (i := 819) (by decide +kernel) rfl
theorem tb_820 : Cond.instanceMethod yX2_mergeAll ∈ zTB := zmem (i := 820) (by decide +kernel) rfl
theorem tb_821 : Cond.selects yX2_mergeAll.cls yX2_mergeAll yX2_mergeAll ∈ zTB := zmem (i := 821) (by decide +kernel) rfl
theorem cv_X9_349 : zCV RX9 349 yX2_mergeAll cX2_mergeAll 4 none 1 2 := ⟨⟨tb_822, tb_121, tb_819, ⟨by decide, by decide, by decide +kernel⟩, by decide⟩, tb_820, tb_821, TX2, 10, rfl⟩
set_option maxRecDepth 20000 in
theorem tb_791 : Cond.code yX0_layAll cX0_layAll 4 none ∈ zTB := zmem (i := 791) rfl rfl
theorem tb_788 : Cond.methodLink RX9 346 yX0_layAll ∈ zTB := zmem (i := 788) (by decide +kernel) rfl
theorem tb_789 : Cond.instanceMethod yX0_layAll ∈ zTB := zmem (i := 789) (by decide +kernel) rfl
theorem tb_790 : Cond.selects yX0_layAll.cls yX0_layAll yX0_layAll ∈ zTB := zmem (i := 790) (by decide +kernel) rfl
theorem cv_X9_346 : zCV RX9 346 yX0_layAll cX0_layAll 4 none 1 0 := ⟨⟨tb_791, tb_120, tb_788, ⟨by decide, by decide, by decide +kernel⟩, by decide⟩, tb_789, tb_790, TX0, 3, rfl⟩
set_option maxRecDepth 20000 in
theorem tb_878 : Cond.code yX0_kindOf cX0_kindOf 3 (some .int) ∈ zTB := zmem (i := 878) rfl rfl
theorem tb_875 : Cond.methodLink RX0 76 yX0_kindOf ∈ zTB := zmem (i := 875) (by decide +kernel) rfl
theorem tb_876 : Cond.instanceMethod yX0_kindOf ∈ zTB := zmem (i := 876) (by decide +kernel) rfl
theorem tb_877 : Cond.selects yX0_kindOf.cls yX0_kindOf yX0_kindOf ∈ zTB := zmem (i := 877) (by decide +kernel) rfl
theorem cv_X0_76 : zCV RX0 76 yX0_kindOf cX0_kindOf 3 (some .int) 2 0 := ⟨⟨tb_878, tb_120, tb_875, ⟨by decide, by decide, by decide +kernel⟩, by decide⟩, tb_876, tb_877, TX0, 3, rfl⟩
set_option maxRecDepth 20000 in
theorem tb_874 : Cond.code yX0_bitsOf cX0_bitsOf 5 (some .int) ∈ zTB := zmem (i := 874) rfl rfl
theorem tb_879 : Cond.methodLink RX9 220 yX0_bitsOf ∈ zTB := zmem (i := 879) (by decide +kernel) rfl
theorem tb_872 : Cond.instanceMethod yX0_bitsOf ∈ zTB := zmem (i := 872) (by decide +kernel) rfl
theorem tb_873 : Cond.selects yX0_bitsOf.cls yX0_bitsOf yX0_bitsOf ∈ zTB := zmem (i := 873) (by decide +kernel) rfl
theorem cv_X9_220 : zCV RX9 220 yX0_bitsOf cX0_bitsOf 5 (some .int) 2 0 := ⟨⟨tb_874, tb_120, tb_879, ⟨by decide, by decide, by decide +kernel⟩, by decide⟩, tb_872, tb_873, TX0, 3, rfl⟩
theorem tb_871 : Cond.methodLink RX0 79 yX0_bitsOf ∈ zTB := zmem (i := 871) (by decide +kernel) rfl
theorem cv_X0_79 : zCV RX0 79 yX0_bitsOf cX0_bitsOf 5 (some .int) 2 0 := ⟨⟨tb_874, tb_120, tb_871, ⟨by decide, by decide, by decide +kernel⟩, by decide⟩, tb_872, tb_873, TX0, 3, rfl⟩
set_option maxRecDepth 20000 in
theorem tb_870 : Cond.code yX0_bitsOfAll cX0_bitsOfAll 2 (some .int) ∈ zTB := zmem (i := 870) rfl rfl
theorem tb_867 : Cond.methodLink RX9 217 yX0_bitsOfAll ∈ zTB := zmem (i := 867) (by decide +kernel) rfl
theorem tb_868 : Cond.instanceMethod yX0_bitsOfAll ∈ zTB := zmem (i := 868) (by decide +kernel) rfl
theorem tb_869 : Cond.selects yX0_bitsOfAll.cls yX0_bitsOfAll yX0_bitsOfAll ∈ zTB := zmem (i := 869) (by decide +kernel) rfl
theorem cv_X9_217 : zCV RX9 217 yX0_bitsOfAll cX0_bitsOfAll 2 (some .int) 1 0 := ⟨⟨tb_870, tb_120, tb_867, ⟨by decide, by decide, by decide +kernel⟩, by decide⟩, tb_868, tb_869, TX0, 3, rfl⟩
theorem tb_866 : Cond.methodLink RX7 58 yX7_requires ∈ zTB := zmem (i := 866) (by decide +kernel) rfl
theorem cv_X7_58 : zCV RX7 58 yX7_requires cX7_requires 2 (some .boolean) 1 7 := ⟨⟨tb_734, tb_116, tb_866, ⟨by decide, by decide, by decide +kernel⟩, by decide⟩, tb_732, tb_733, TX7, 9, rfl⟩
set_option maxRecDepth 20000 in
theorem tb_865 : Cond.code yX7_requiredBits cX7_requiredBits 3 (some .int) ∈ zTB := zmem (i := 865) rfl rfl
theorem tb_862 : Cond.methodLink RX9 214 yX7_requiredBits ∈ zTB := zmem (i := 862) (by decide +kernel) rfl
theorem tb_863 : Cond.instanceMethod yX7_requiredBits ∈ zTB := zmem (i := 863) (by decide +kernel) rfl
theorem tb_864 : Cond.selects yX7_requiredBits.cls yX7_requiredBits yX7_requiredBits ∈ zTB := zmem (i := 864) (by decide +kernel) rfl
theorem cv_X9_214 : zCV RX9 214 yX7_requiredBits cX7_requiredBits 3 (some .int) 0 7 := ⟨⟨tb_865, tb_116, tb_862, ⟨by decide, by decide, by decide +kernel⟩, by decide⟩, tb_863, tb_864, TX7, 9, rfl⟩
set_option maxRecDepth 20000 in
theorem tb_861 : Cond.code yX7_toldBits cX7_toldBits 3 (some .int) ∈ zTB := zmem (i := 861) rfl rfl
theorem tb_858 : Cond.methodLink RX9 210 yX7_toldBits ∈ zTB := zmem (i := 858) (by decide +kernel) rfl
theorem tb_859 : Cond.instanceMethod yX7_toldBits ∈ zTB := zmem (i := 859) (by decide +kernel) rfl
theorem tb_860 : Cond.selects yX7_toldBits.cls yX7_toldBits yX7_toldBits ∈ zTB := zmem (i := 860) (by decide +kernel) rfl
theorem cv_X9_210 : zCV RX9 210 yX7_toldBits cX7_toldBits 3 (some .int) 0 7 := ⟨⟨tb_861, tb_116, tb_858, ⟨by decide, by decide, by decide +kernel⟩, by decide⟩, tb_859, tb_860, TX7, 9, rfl⟩
theorem tb_184 : Cond.fieldLink RX9 207 "TraitLines$Unit" "name" "I" ∈ zTB := zmem (i := 184) (by decide +kernel) rfl
theorem fl_X9_207 : zFL RX9 207 7 1 := ⟨RX7, TX7, 9, rfl, uw_7, by decide, rfl, tb_184⟩
theorem tb_181 : Cond.fieldLink RX9 204 "TraitLines$Unit" "trait" "Z" ∈ zTB := zmem (i := 181) (by decide +kernel) rfl
theorem fl_X9_204 : zFL RX9 204 7 0 := ⟨RX7, TX7, 9, rfl, uw_7, by decide, rfl, tb_181⟩
set_option maxRecDepth 20000 in
theorem tb_787 : Cond.code yX9_settle cX9_settle 1 none ∈ zTB := zmem (i := 787) rfl rfl
theorem tb_784 : Cond.methodLink RX9 201 yX9_settle ∈ zTB := zmem (i := 784) (by decide +kernel) rfl
theorem tb_786 : Cond.instanceMethod yX9_settle ∈ zTB := zmem (i := 786) (by decide +kernel) rfl
theorem tb_20 : Cond.selects yX9_settle.cls yX9_settle yX9_settle ∈ zTB := zmem (i := 20) (by decide +kernel) rfl
theorem cv_X9_201 : zCV RX9 201 yX9_settle cX9_settle 1 none 0 9 := ⟨⟨tb_787, tb_114, tb_784, ⟨by decide, by decide, by decide +kernel⟩, by decide⟩, tb_786, tb_20, TX9, 13, rfl⟩
theorem tb_1108 : Cond.fieldLink RX10 32 "TraitLinesModel" "flat" "[I" ∈ zTB := zmem (i := 1108) (by decide +kernel) rfl
theorem fl_X10_32 : zFL RX10 32 10 12 := ⟨RX10, TX10, 29, rfl, uw_10, by decide, rfl, tb_1108⟩
set_option maxRecDepth 20000 in
theorem tb_1422 : Cond.code yX10_flatAt cX10_flatAt 2 (some .int) ∈ zTB := zmem (i := 1422) rfl rfl
theorem tb_1420 : Cond.methodLink RX10 216 yX10_flatAt ∈ zTB := zmem (i := 1420) (by decide +kernel) rfl
theorem tb_1421 : Cond.static yX10_flatAt ∈ zTB := zmem (i := 1421) (by decide +kernel) rfl
theorem cs_X10_216 : zCS RX10 216 yX10_flatAt cX10_flatAt 2 (some .int) 2 := ⟨⟨tb_1422, tb_124, tb_1420, ⟨by decide, by decide, by decide +kernel⟩, by decide⟩, tb_1421⟩
set_option maxRecDepth 20000 in
theorem tb_1430 : Cond.code yX10_gives cX10_gives 5 none ∈ zTB := zmem (i := 1430) rfl rfl
theorem tb_1427 : Cond.methodLink RX10 219 yX10_gives ∈ zTB := zmem (i := 1427) (by decide +kernel) rfl
theorem tb_1429 : Cond.instanceMethod yX10_gives ∈ zTB := zmem (i := 1429) (by decide +kernel) rfl
theorem tb_88 : Cond.selects yX10_gives.cls yX10_gives yX10_gives ∈ zTB := zmem (i := 88) (by decide +kernel) rfl
theorem cv_X10_219 : zCV RX10 219 yX10_gives cX10_gives 5 none 3 10 := ⟨⟨tb_1430, tb_124, tb_1427, ⟨by decide, by decide, by decide +kernel⟩, by decide⟩, tb_1429, tb_88, TX10, 29, rfl⟩
set_option maxRecDepth 20000 in
theorem tb_1426 : Cond.code yX10_givesAll cX10_givesAll 3 none ∈ zTB := zmem (i := 1426) rfl rfl
theorem tb_1423 : Cond.methodLink RX10 225 yX10_givesAll ∈ zTB := zmem (i := 1423) (by decide +kernel) rfl
theorem tb_1425 : Cond.instanceMethod yX10_givesAll ∈ zTB := zmem (i := 1425) (by decide +kernel) rfl
theorem tb_87 : Cond.selects yX10_givesAll.cls yX10_givesAll yX10_givesAll ∈ zTB := zmem (i := 87) (by decide +kernel) rfl
theorem cv_X10_225 : zCV RX10 225 yX10_givesAll cX10_givesAll 3 none 2 10 := ⟨⟨tb_1426, tb_124, tb_1423, ⟨by decide, by decide, by decide +kernel⟩, by decide⟩, tb_1425, tb_87, TX10, 29, rfl⟩
theorem tb_1110 : Cond.fieldLink RX10 38 "TraitLinesModel" "lineLong" "[I" ∈ zTB := zmem (i := 1110) (by decide +kernel) rfl
theorem fl_X10_38 : zFL RX10 38 10 14 := ⟨RX10, TX10, 29, rfl, uw_10, by decide, rfl, tb_1110⟩
theorem tb_1112 : Cond.fieldLink RX10 44 "TraitLinesModel" "ringLong" "[I" ∈ zTB := zmem (i := 1112) (by decide +kernel) rfl
theorem fl_X10_44 : zFL RX10 44 10 16 := ⟨RX10, TX10, 29, rfl, uw_10, by decide, rfl, tb_1112⟩
theorem tb_1114 : Cond.fieldLink RX10 50 "TraitLinesModel" "rowLong" "[I" ∈ zTB := zmem (i := 1114) (by decide +kernel) rfl
theorem fl_X10_50 : zFL RX10 50 10 18 := ⟨RX10, TX10, 29, rfl, uw_10, by decide, rfl, tb_1114⟩
theorem tb_1115 : Cond.fieldLink RX10 53 "TraitLinesModel" "gone" "[I" ∈ zTB := zmem (i := 1115) (by decide +kernel) rfl
theorem fl_X10_53 : zFL RX10 53 10 19 := ⟨RX10, TX10, 29, rfl, uw_10, by decide, rfl, tb_1115⟩
theorem tb_1113 : Cond.fieldLink RX10 47 "TraitLinesModel" "row" "[I" ∈ zTB := zmem (i := 1113) (by decide +kernel) rfl
theorem fl_X10_47 : zFL RX10 47 10 17 := ⟨RX10, TX10, 29, rfl, uw_10, by decide, rfl, tb_1113⟩
theorem tb_1109 : Cond.fieldLink RX10 35 "TraitLinesModel" "line" "[I" ∈ zTB := zmem (i := 1109) (by decide +kernel) rfl
theorem fl_X10_35 : zFL RX10 35 10 13 := ⟨RX10, TX10, 29, rfl, uw_10, by decide, rfl, tb_1109⟩
set_option maxRecDepth 20000 in
theorem tb_1442 : Cond.code yX10_headOf cX10_headOf 2 (some .int) ∈ zTB := zmem (i := 1442) rfl rfl
theorem tb_1439 : Cond.methodLink RX10 231 yX10_headOf ∈ zTB := zmem (i := 1439) (by decide +kernel) rfl
theorem tb_1441 : Cond.instanceMethod yX10_headOf ∈ zTB := zmem (i := 1441) (by decide +kernel) rfl
theorem tb_91 : Cond.selects yX10_headOf.cls yX10_headOf yX10_headOf ∈ zTB := zmem (i := 91) (by decide +kernel) rfl
theorem cv_X10_231 : zCV RX10 231 yX10_headOf cX10_headOf 2 (some .int) 1 10 := ⟨⟨tb_1442, tb_124, tb_1439, ⟨by decide, by decide, by decide +kernel⟩, by decide⟩, tb_1441, tb_91, TX10, 29, rfl⟩
set_option maxRecDepth 20000 in
theorem tb_1454 : Cond.code yX10_isInTail cX10_isInTail 4 (some .boolean) ∈ zTB := zmem (i := 1454) rfl rfl
theorem tb_1451 : Cond.methodLink RX10 228 yX10_isInTail ∈ zTB := zmem (i := 1451) (by decide +kernel) rfl
theorem tb_1453 : Cond.instanceMethod yX10_isInTail ∈ zTB := zmem (i := 1453) (by decide +kernel) rfl
theorem tb_94 : Cond.selects yX10_isInTail.cls yX10_isInTail yX10_isInTail ∈ zTB := zmem (i := 94) (by decide +kernel) rfl
theorem cv_X10_228 : zCV RX10 228 yX10_isInTail cX10_isInTail 4 (some .boolean) 2 10 := ⟨⟨tb_1454, tb_124, tb_1451, ⟨by decide, by decide, by decide +kernel⟩, by decide⟩, tb_1453, tb_94, TX10, 29, rfl⟩
set_option maxRecDepth 20000 in
theorem tb_1450 : Cond.code yX10_tailOf cX10_tailOf 4 (some .int) ∈ zTB := zmem (i := 1450) rfl rfl
theorem tb_1447 : Cond.methodLink RX10 234 yX10_tailOf ∈ zTB := zmem (i := 1447) (by decide +kernel) rfl
theorem tb_1449 : Cond.instanceMethod yX10_tailOf ∈ zTB := zmem (i := 1449) (by decide +kernel) rfl
theorem tb_93 : Cond.selects yX10_tailOf.cls yX10_tailOf yX10_tailOf ∈ zTB := zmem (i := 93) (by decide +kernel) rfl
theorem cv_X10_234 : zCV RX10 234 yX10_tailOf cX10_tailOf 4 (some .int) 2 10 := ⟨⟨tb_1450, tb_124, tb_1447, ⟨by decide, by decide, by decide +kernel⟩, by decide⟩, tb_1449, tb_93, TX10, 29, rfl⟩
theorem tb_1111 : Cond.fieldLink RX10 41 "TraitLinesModel" "ring" "[I" ∈ zTB := zmem (i := 1111) (by decide +kernel) rfl
theorem fl_X10_41 : zFL RX10 41 10 15 := ⟨RX10, TX10, 29, rfl, uw_10, by decide, rfl, tb_1111⟩
set_option maxRecDepth 20000 in
theorem tb_1458 : Cond.code yX10_laysRing cX10_laysRing 8 none ∈ zTB := zmem (i := 1458) rfl rfl
theorem tb_1455 : Cond.methodLink RX10 249 yX10_laysRing ∈ zTB := zmem (i := 1455) (by decide +kernel) rfl
theorem tb_1457 : Cond.instanceMethod yX10_laysRing ∈ zTB := zmem (i := 1457) (by decide +kernel) rfl
theorem tb_95 : Cond.selects yX10_laysRing.cls yX10_laysRing yX10_laysRing ∈ zTB := zmem (i := 95) (by decide +kernel) rfl
theorem cv_X10_249 : zCV RX10 249 yX10_laysRing cX10_laysRing 8 none 2 10 := ⟨⟨tb_1458, tb_124, tb_1455, ⟨by decide, by decide, by decide +kernel⟩, by decide⟩, tb_1457, tb_95, TX10, 29, rfl⟩
set_option maxRecDepth 20000 in
theorem tb_1446 : Cond.code yX10_nextHead cX10_nextHead 3 (some .int) ∈ zTB := zmem (i := 1446) rfl rfl
theorem tb_1443 : Cond.methodLink RX10 246 yX10_nextHead ∈ zTB := zmem (i := 1443) (by decide +kernel) rfl
theorem tb_1445 : Cond.instanceMethod yX10_nextHead ∈ zTB := zmem (i := 1445) (by decide +kernel) rfl
theorem tb_92 : Cond.selects yX10_nextHead.cls yX10_nextHead yX10_nextHead ∈ zTB := zmem (i := 92) (by decide +kernel) rfl
theorem cv_X10_246 : zCV RX10 246 yX10_nextHead cX10_nextHead 3 (some .int) 1 10 := ⟨⟨tb_1446, tb_124, tb_1443, ⟨by decide, by decide, by decide +kernel⟩, by decide⟩, tb_1445, tb_92, TX10, 29, rfl⟩
set_option maxRecDepth 20000 in
theorem tb_1438 : Cond.code yX10_isLeft cX10_isLeft 3 (some .boolean) ∈ zTB := zmem (i := 1438) rfl rfl
theorem tb_1435 : Cond.methodLink RX10 243 yX10_isLeft ∈ zTB := zmem (i := 1435) (by decide +kernel) rfl
theorem tb_1437 : Cond.instanceMethod yX10_isLeft ∈ zTB := zmem (i := 1437) (by decide +kernel) rfl
theorem tb_90 : Cond.selects yX10_isLeft.cls yX10_isLeft yX10_isLeft ∈ zTB := zmem (i := 90) (by decide +kernel) rfl
theorem cv_X10_243 : zCV RX10 243 yX10_isLeft cX10_isLeft 3 (some .boolean) 1 10 := ⟨⟨tb_1438, tb_124, tb_1435, ⟨by decide, by decide, by decide +kernel⟩, by decide⟩, tb_1437, tb_90, TX10, 29, rfl⟩
set_option maxRecDepth 20000 in
theorem tb_1434 : Cond.code yX10_laysLine cX10_laysLine 6 none ∈ zTB := zmem (i := 1434) rfl rfl
theorem tb_1431 : Cond.methodLink RX10 255 yX10_laysLine ∈ zTB := zmem (i := 1431) (by decide +kernel) rfl
theorem tb_1433 : Cond.instanceMethod yX10_laysLine ∈ zTB := zmem (i := 1433) (by decide +kernel) rfl
theorem tb_89 : Cond.selects yX10_laysLine.cls yX10_laysLine yX10_laysLine ∈ zTB := zmem (i := 89) (by decide +kernel) rfl
theorem cv_X10_255 : zCV RX10 255 yX10_laysLine cX10_laysLine 6 none 1 10 := ⟨⟨tb_1434, tb_124, tb_1431, ⟨by decide, by decide, by decide +kernel⟩, by decide⟩, tb_1433, tb_89, TX10, 29, rfl⟩
set_option maxRecDepth 20000 in
theorem tb_1419 : Cond.code yX10_laysFlat cX10_laysFlat 5 none ∈ zTB := zmem (i := 1419) rfl rfl
theorem tb_1416 : Cond.methodLink RX10 252 yX10_laysFlat ∈ zTB := zmem (i := 1416) (by decide +kernel) rfl
theorem tb_1418 : Cond.instanceMethod yX10_laysFlat ∈ zTB := zmem (i := 1418) (by decide +kernel) rfl
theorem tb_86 : Cond.selects yX10_laysFlat.cls yX10_laysFlat yX10_laysFlat ∈ zTB := zmem (i := 86) (by decide +kernel) rfl
theorem cv_X10_252 : zCV RX10 252 yX10_laysFlat cX10_laysFlat 5 none 1 10 := ⟨⟨tb_1419, tb_124, tb_1416, ⟨by decide, by decide, by decide +kernel⟩, by decide⟩, tb_1418, tb_86, TX10, 29, rfl⟩
set_option maxRecDepth 20000 in
theorem tb_1470 : Cond.code yX10_kindOf cX10_kindOf 3 (some .int) ∈ zTB := zmem (i := 1470) rfl rfl
theorem tb_1467 : Cond.methodLink RX10 276 yX10_kindOf ∈ zTB := zmem (i := 1467) (by decide +kernel) rfl
theorem tb_1469 : Cond.instanceMethod yX10_kindOf ∈ zTB := zmem (i := 1469) (by decide +kernel) rfl
theorem tb_98 : Cond.selects yX10_kindOf.cls yX10_kindOf yX10_kindOf ∈ zTB := zmem (i := 98) (by decide +kernel) rfl
theorem cv_X10_276 : zCV RX10 276 yX10_kindOf cX10_kindOf 3 (some .int) 2 10 := ⟨⟨tb_1470, tb_124, tb_1467, ⟨by decide, by decide, by decide +kernel⟩, by decide⟩, tb_1469, tb_98, TX10, 29, rfl⟩
set_option maxRecDepth 20000 in
theorem tb_1466 : Cond.code yX10_flatSet cX10_flatSet 6 (some .int) ∈ zTB := zmem (i := 1466) rfl rfl
theorem tb_1463 : Cond.methodLink RX10 285 yX10_flatSet ∈ zTB := zmem (i := 1463) (by decide +kernel) rfl
theorem tb_1465 : Cond.instanceMethod yX10_flatSet ∈ zTB := zmem (i := 1465) (by decide +kernel) rfl
theorem tb_97 : Cond.selects yX10_flatSet.cls yX10_flatSet yX10_flatSet ∈ zTB := zmem (i := 97) (by decide +kernel) rfl
theorem cv_X10_285 : zCV RX10 285 yX10_flatSet cX10_flatSet 6 (some .int) 2 10 := ⟨⟨tb_1466, tb_124, tb_1463, ⟨by decide, by decide, by decide +kernel⟩, by decide⟩, tb_1465, tb_97, TX10, 29, rfl⟩
set_option maxRecDepth 20000 in
theorem tb_1462 : Cond.code yX10_ownSet cX10_ownSet 5 (some .int) ∈ zTB := zmem (i := 1462) rfl rfl
theorem tb_1459 : Cond.methodLink RX10 281 yX10_ownSet ∈ zTB := zmem (i := 1459) (by decide +kernel) rfl
theorem tb_1461 : Cond.instanceMethod yX10_ownSet ∈ zTB := zmem (i := 1461) (by decide +kernel) rfl
theorem tb_96 : Cond.selects yX10_ownSet.cls yX10_ownSet yX10_ownSet ∈ zTB := zmem (i := 96) (by decide +kernel) rfl
theorem cv_X10_281 : zCV RX10 281 yX10_ownSet cX10_ownSet 5 (some .int) 2 10 := ⟨⟨tb_1462, tb_124, tb_1459, ⟨by decide, by decide, by decide +kernel⟩, by decide⟩, tb_1461, tb_96, TX10, 29, rfl⟩
set_option maxRecDepth 20000 in
theorem tb_1415 : Cond.code yX10_lays_ cX10_lays_ 2 none ∈ zTB := zmem (i := 1415) rfl rfl
theorem tb_1412 : Cond.methodLink RX10 279 yX10_lays_ ∈ zTB := zmem (i := 1412) (by decide +kernel) rfl
theorem tb_1414 : Cond.instanceMethod yX10_lays_ ∈ zTB := zmem (i := 1414) (by decide +kernel) rfl
theorem tb_85 : Cond.selects yX10_lays_.cls yX10_lays_ yX10_lays_ ∈ zTB := zmem (i := 85) (by decide +kernel) rfl
theorem cv_X10_279 : zCV RX10 279 yX10_lays_ cX10_lays_ 2 none 0 10 := ⟨⟨tb_1415, tb_124, tb_1412, ⟨by decide, by decide, by decide +kernel⟩, by decide⟩, tb_1414, tb_85, TX10, 29, rfl⟩
theorem tb_884 : Cond.methodLink RX9 223 yX5_itemAt ∈ zTB := zmem (i := 884) (by decide +kernel) rfl
theorem cv_X9_223 : zCV RX9 223 yX5_itemAt cX5_itemAt 2 (some .int) 1 5 := ⟨⟨tb_809, tb_117, tb_884, ⟨by decide, by decide, by decide +kernel⟩, by decide⟩, tb_807, tb_808, TX5, 2, rfl⟩
set_option maxRecDepth 20000 in
theorem tb_909 : Cond.code yX0_secondSource cX0_secondSource 3 (some .int) ∈ zTB := zmem (i := 909) rfl rfl
theorem tb_906 : Cond.methodLink RX9 232 yX0_secondSource ∈ zTB := zmem (i := 906) (by decide +kernel) rfl
theorem tb_907 : Cond.instanceMethod yX0_secondSource ∈ zTB := zmem (i := 907) (by decide +kernel) rfl
theorem tb_908 : Cond.selects yX0_secondSource.cls yX0_secondSource yX0_secondSource ∈ zTB := zmem (i := 908) (by decide +kernel) rfl
theorem cv_X9_232 : zCV RX9 232 yX0_secondSource cX0_secondSource 3 (some .int) 2 0 := ⟨⟨tb_909, tb_120, tb_906, ⟨by decide, by decide, by decide +kernel⟩, by decide⟩, tb_907, tb_908, TX0, 3, rfl⟩
set_option maxRecDepth 20000 in
theorem tb_905 : Cond.code yX0_firstSource cX0_firstSource 3 (some .int) ∈ zTB := zmem (i := 905) rfl rfl
theorem tb_902 : Cond.methodLink RX9 229 yX0_firstSource ∈ zTB := zmem (i := 902) (by decide +kernel) rfl
theorem tb_903 : Cond.instanceMethod yX0_firstSource ∈ zTB := zmem (i := 903) (by decide +kernel) rfl
theorem tb_904 : Cond.selects yX0_firstSource.cls yX0_firstSource yX0_firstSource ∈ zTB := zmem (i := 904) (by decide +kernel) rfl
theorem cv_X9_229 : zCV RX9 229 yX0_firstSource cX0_firstSource 3 (some .int) 2 0 := ⟨⟨tb_905, tb_120, tb_902, ⟨by decide, by decide, by decide +kernel⟩, by decide⟩, tb_903, tb_904, TX0, 3, rfl⟩
theorem tb_901 : Cond.methodLink RX9 226 yX0_kindOf ∈ zTB := zmem (i := 901) (by decide +kernel) rfl
theorem cv_X9_226 : zCV RX9 226 yX0_kindOf cX0_kindOf 3 (some .int) 2 0 := ⟨⟨tb_878, tb_120, tb_901, ⟨by decide, by decide, by decide +kernel⟩, by decide⟩, tb_876, tb_877, TX0, 3, rfl⟩
theorem tb_321 : Cond.fieldLink RX9 235 "TraitLines$Lines" "lines" "[[I" ∈ zTB := zmem (i := 321) (by decide +kernel) rfl
theorem fl_X9_235 : zFL RX9 235 2 0 := ⟨RX2, TX2, 10, rfl, uw_2, by decide, rfl, tb_321⟩
theorem tb_324 : Cond.fieldLink RX9 238 "TraitLines$Lines" "lengths" "[I" ∈ zTB := zmem (i := 324) (by decide +kernel) rfl
theorem fl_X9_238 : zFL RX9 238 2 1 := ⟨RX2, TX2, 10, rfl, uw_2, by decide, rfl, tb_324⟩
set_option maxRecDepth 20000 in
theorem tb_916 : Cond.code yX9_itemOrCount cX9_itemOrCount 3 (some .int) ∈ zTB := zmem (i := 916) rfl rfl
theorem tb_914 : Cond.methodLink RX9 241 yX9_itemOrCount ∈ zTB := zmem (i := 914) (by decide +kernel) rfl
theorem tb_915 : Cond.static yX9_itemOrCount ∈ zTB := zmem (i := 915) (by decide +kernel) rfl
theorem cs_X9_241 : zCS RX9 241 yX9_itemOrCount cX9_itemOrCount 3 (some .int) 3 := ⟨⟨tb_916, tb_114, tb_914, ⟨by decide, by decide, by decide +kernel⟩, by decide⟩, tb_915⟩
theorem tb_326 : Cond.fieldLink RX9 245 "TraitLines$Lines" "rings" "[[I" ∈ zTB := zmem (i := 326) (by decide +kernel) rfl
theorem fl_X9_245 : zFL RX9 245 2 2 := ⟨RX2, TX2, 10, rfl, uw_2, by decide, rfl, tb_326⟩
theorem tb_328 : Cond.fieldLink RX9 248 "TraitLines$Lines" "ringLengths" "[I" ∈ zTB := zmem (i := 328) (by decide +kernel) rfl
theorem fl_X9_248 : zFL RX9 248 2 3 := ⟨RX2, TX2, 10, rfl, uw_2, by decide, rfl, tb_328⟩
theorem tb_330 : Cond.fieldLink RX9 251 "TraitLines$Lines" "overBits" "[I" ∈ zTB := zmem (i := 330) (by decide +kernel) rfl
theorem fl_X9_251 : zFL RX9 251 2 4 := ⟨RX2, TX2, 10, rfl, uw_2, by decide, rfl, tb_330⟩
set_option maxRecDepth 20000 in
theorem tb_1506 : Cond.code yX10_overSet cX10_overSet 5 (some .int) ∈ zTB := zmem (i := 1506) rfl rfl
theorem tb_1503 : Cond.methodLink RX10 288 yX10_overSet ∈ zTB := zmem (i := 1503) (by decide +kernel) rfl
theorem tb_1505 : Cond.instanceMethod yX10_overSet ∈ zTB := zmem (i := 1505) (by decide +kernel) rfl
theorem tb_99 : Cond.selects yX10_overSet.cls yX10_overSet yX10_overSet ∈ zTB := zmem (i := 99) (by decide +kernel) rfl
theorem cv_X10_288 : zCV RX10 288 yX10_overSet cX10_overSet 5 (some .int) 1 10 := ⟨⟨tb_1506, tb_124, tb_1503, ⟨by decide, by decide, by decide +kernel⟩, by decide⟩, tb_1505, tb_99, TX10, 29, rfl⟩
theorem tb_430 : Cond.fieldLink RX9 58 "TraitLines" "ordering" "LTraitLines$Orders;" ∈ zTB := zmem (i := 430) (by decide +kernel) rfl
theorem fl_X9_58 : zFL RX9 58 9 10 := ⟨RX9, TX9, 13, rfl, uw_9, by decide, rfl, tb_430⟩
theorem tb_365 : Cond.fieldLink RX3 18 "TraitLines$Orders" "members" "I" ∈ zTB := zmem (i := 365) (by decide +kernel) rfl
theorem uw_3 : ∀ w ∈ u_ws RX3 TX3 3, w ∈ zTB := by decide +kernel
theorem fw_X3_18 : zFW RX3 18 3 2 .int := ⟨RX3, TX3, 3, tyX3, rfl, uw_3, by decide, rfl, tb_365, tyX3_ok, nmX3, rfl, by decide +kernel⟩
theorem tb_363 : Cond.fieldLink RX3 9 "TraitLines$Orders" "ahead" "[I" ∈ zTB := zmem (i := 363) (by decide +kernel) rfl
theorem fl_X3_9 : zFL RX3 9 3 0 := ⟨RX3, TX3, 3, rfl, uw_3, by decide, rfl, tb_363⟩
theorem tb_233 : Cond.fieldLink RX3 28 "TraitLines$World" "size" "I" ∈ zTB := zmem (i := 233) (by decide +kernel) rfl
theorem fl_X3_28 : zFL RX3 28 8 1 := ⟨RX8, TX8, 2, rfl, uw_8, by decide, rfl, tb_233⟩
theorem fl_X3_18 : zFL RX3 18 3 2 := ⟨RX3, TX3, 3, rfl, uw_3, by decide, rfl, tb_365⟩
theorem tb_224 : Cond.fieldLink RX3 37 "TraitLines$World" "units" "[LTraitLines$Unit;" ∈ zTB := zmem (i := 224) (by decide +kernel) rfl
theorem fl_X3_37 : zFL RX3 37 8 0 := ⟨RX8, TX8, 2, rfl, uw_8, by decide, rfl, tb_224⟩
theorem tb_188 : Cond.fieldLink RX3 41 "TraitLines$Unit" "parents" "LTraitLines$Row;" ∈ zTB := zmem (i := 188) (by decide +kernel) rfl
theorem fl_X3_41 : zFL RX3 41 7 3 := ⟨RX7, TX7, 9, rfl, uw_7, by decide, rfl, tb_188⟩
theorem tb_169 : Cond.fieldLink RX3 54 "TraitLines$Row" "size" "I" ∈ zTB := zmem (i := 169) (by decide +kernel) rfl
theorem fl_X3_54 : zFL RX3 54 5 1 := ⟨RX5, TX5, 2, rfl, uw_5, by decide, rfl, tb_169⟩
theorem tb_163 : Cond.fieldLink RX3 57 "TraitLines$Row" "items" "[I" ∈ zTB := zmem (i := 163) (by decide +kernel) rfl
theorem fl_X3_57 : zFL RX3 57 5 0 := ⟨RX5, TX5, 2, rfl, uw_5, by decide, rfl, tb_163⟩
set_option maxRecDepth 20000 in
theorem tb_939 : Cond.code yX3_tellParents cX3_tellParents 6 none ∈ zTB := zmem (i := 939) rfl rfl
theorem tb_122 : Cond.initialized RX3 ∈ zTB := zmem (i := 122) (by decide +kernel) rfl
theorem tb_936 : Cond.methodLink RX3 47 yX3_tellParents ∈ zTB := zmem (i := 936) (by decide +kernel) rfl
theorem tb_938 : Cond.instanceMethod yX3_tellParents ∈ zTB := zmem (i := 938) (by decide +kernel) rfl
theorem tb_33 : Cond.selects yX3_tellParents.cls yX3_tellParents yX3_tellParents ∈ zTB := zmem (i := 33) (by decide +kernel) rfl
theorem cv_X3_47 : zCV RX3 47 yX3_tellParents cX3_tellParents 6 none 2 3 := ⟨⟨tb_939, tb_122, tb_936, ⟨by decide, by decide, by decide +kernel⟩, by decide⟩, tb_938, tb_33, TX3, 3, rfl⟩
theorem cn_X3_33 : zCN RX3 33 cX9_hasBit 2 (some .boolean) := ⟨tb_617, tb_114, by decide, tb_616, by decide⟩
set_option maxRecDepth 20000 in
theorem tb_943 : Cond.code yX3_closeAhead cX3_closeAhead 3 none ∈ zTB := zmem (i := 943) rfl rfl
theorem tb_940 : Cond.methodLink RX3 51 yX3_closeAhead ∈ zTB := zmem (i := 940) (by decide +kernel) rfl
theorem tb_942 : Cond.instanceMethod yX3_closeAhead ∈ zTB := zmem (i := 942) (by decide +kernel) rfl
theorem tb_34 : Cond.selects yX3_closeAhead.cls yX3_closeAhead yX3_closeAhead ∈ zTB := zmem (i := 34) (by decide +kernel) rfl
theorem cv_X3_51 : zCV RX3 51 yX3_closeAhead cX3_closeAhead 3 none 0 3 := ⟨⟨tb_943, tb_122, tb_940, ⟨by decide, by decide, by decide +kernel⟩, by decide⟩, tb_942, tb_34, TX3, 3, rfl⟩
theorem tb_934 : Cond.methodLink RX3 22 yJ7_fill_53178 ∈ zTB := zmem (i := 934) (by decide +kernel) rfl
theorem cs_X3_22 : zCS RX3 22 yJ7_fill_53178 cJ7_fill_53178 4 none 2 := ⟨⟨tb_563, tb_130, tb_934, ⟨by decide, by decide, by decide +kernel⟩, by decide⟩, tb_562⟩
theorem tb_364 : Cond.fieldLink RX3 15 "TraitLines$Orders" "ways" "[I" ∈ zTB := zmem (i := 364) (by decide +kernel) rfl
theorem fl_X3_15 : zFL RX3 15 3 1 := ⟨RX3, TX3, 3, rfl, uw_3, by decide, rfl, tb_364⟩
set_option maxRecDepth 20000 in
theorem tb_959 : Cond.code yX3_canFollow cX3_canFollow 3 (some .boolean) ∈ zTB := zmem (i := 959) rfl rfl
theorem tb_956 : Cond.methodLink RX3 68 yX3_canFollow ∈ zTB := zmem (i := 956) (by decide +kernel) rfl
theorem tb_958 : Cond.instanceMethod yX3_canFollow ∈ zTB := zmem (i := 958) (by decide +kernel) rfl
theorem tb_37 : Cond.selects yX3_canFollow.cls yX3_canFollow yX3_canFollow ∈ zTB := zmem (i := 37) (by decide +kernel) rfl
theorem cv_X3_68 : zCV RX3 68 yX3_canFollow cX3_canFollow 3 (some .boolean) 2 3 := ⟨⟨tb_959, tb_122, tb_956, ⟨by decide, by decide, by decide +kernel⟩, by decide⟩, tb_958, tb_37, TX3, 3, rfl⟩
set_option maxRecDepth 20000 in
theorem tb_955 : Cond.code yX3_addNext cX3_addNext 3 none ∈ zTB := zmem (i := 955) rfl rfl
theorem tb_952 : Cond.methodLink RX3 64 yX3_addNext ∈ zTB := zmem (i := 952) (by decide +kernel) rfl
theorem tb_954 : Cond.instanceMethod yX3_addNext ∈ zTB := zmem (i := 954) (by decide +kernel) rfl
theorem tb_36 : Cond.selects yX3_addNext.cls yX3_addNext yX3_addNext ∈ zTB := zmem (i := 36) (by decide +kernel) rfl
theorem cv_X3_64 : zCV RX3 64 yX3_addNext cX3_addNext 3 none 1 3 := ⟨⟨tb_955, tb_122, tb_952, ⟨by decide, by decide, by decide +kernel⟩, by decide⟩, tb_954, tb_36, TX3, 3, rfl⟩
set_option maxRecDepth 20000 in
theorem tb_951 : Cond.code yX3_hasNone cX3_hasNone 2 (some .boolean) ∈ zTB := zmem (i := 951) rfl rfl
theorem tb_948 : Cond.methodLink RX3 60 yX3_hasNone ∈ zTB := zmem (i := 948) (by decide +kernel) rfl
theorem tb_950 : Cond.instanceMethod yX3_hasNone ∈ zTB := zmem (i := 950) (by decide +kernel) rfl
theorem tb_35 : Cond.selects yX3_hasNone.cls yX3_hasNone yX3_hasNone ∈ zTB := zmem (i := 35) (by decide +kernel) rfl
theorem cv_X3_60 : zCV RX3 60 yX3_hasNone cX3_hasNone 2 (some .boolean) 0 3 := ⟨⟨tb_951, tb_122, tb_948, ⟨by decide, by decide, by decide +kernel⟩, by decide⟩, tb_950, tb_35, TX3, 3, rfl⟩
set_option maxRecDepth 20000 in
theorem tb_947 : Cond.code yX3_howMany cX3_howMany 2 (some .long) ∈ zTB := zmem (i := 947) rfl rfl
theorem tb_944 : Cond.methodLink RX9 260 yX3_howMany ∈ zTB := zmem (i := 944) (by decide +kernel) rfl
theorem tb_945 : Cond.instanceMethod yX3_howMany ∈ zTB := zmem (i := 945) (by decide +kernel) rfl
theorem tb_946 : Cond.selects yX3_howMany.cls yX3_howMany yX3_howMany ∈ zTB := zmem (i := 946) (by decide +kernel) rfl
theorem cv_X9_260 : zCV RX9 260 yX3_howMany cX3_howMany 2 (some .long) 0 3 := ⟨⟨tb_947, tb_122, tb_944, ⟨by decide, by decide, by decide +kernel⟩, by decide⟩, tb_945, tb_946, TX3, 3, rfl⟩
set_option maxRecDepth 20000 in
theorem tb_933 : Cond.code yX3_prepare cX3_prepare 4 none ∈ zTB := zmem (i := 933) rfl rfl
theorem tb_930 : Cond.methodLink RX9 256 yX3_prepare ∈ zTB := zmem (i := 930) (by decide +kernel) rfl
theorem tb_931 : Cond.instanceMethod yX3_prepare ∈ zTB := zmem (i := 931) (by decide +kernel) rfl
theorem tb_932 : Cond.selects yX3_prepare.cls yX3_prepare yX3_prepare ∈ zTB := zmem (i := 932) (by decide +kernel) rfl
theorem cv_X9_256 : zCV RX9 256 yX3_prepare cX3_prepare 4 none 2 3 := ⟨⟨tb_933, tb_122, tb_930, ⟨by decide, by decide, by decide +kernel⟩, by decide⟩, tb_931, tb_932, TX3, 3, rfl⟩
theorem tb_929 : Jvm.Cond.constantLong RX9 254 (-1) ∈ zTB := zmem (i := 929) (by decide +kernel) rfl
theorem tb_1519 : Jvm.Cond.constantLong RX10 298 (-1) ∈ zTB := zmem (i := 1519) (by decide +kernel) rfl
theorem tb_1116 : Cond.fieldLink RX10 56 "TraitLinesModel" "ahead" "[I" ∈ zTB := zmem (i := 1116) (by decide +kernel) rfl
theorem fl_X10_56 : zFL RX10 56 10 20 := ⟨RX10, TX10, 29, rfl, uw_10, by decide, rfl, tb_1116⟩
theorem tb_1117 : Cond.fieldLink RX10 59 "TraitLinesModel" "ways" "[J" ∈ zTB := zmem (i := 1117) (by decide +kernel) rfl
theorem fl_X10_59 : zFL RX10 59 10 21 := ⟨RX10, TX10, 29, rfl, uw_10, by decide, rfl, tb_1117⟩
set_option maxRecDepth 20000 in
theorem tb_1518 : Cond.code yX10_laysAhead cX10_laysAhead 4 none ∈ zTB := zmem (i := 1518) rfl rfl
theorem tb_1515 : Cond.methodLink RX10 291 yX10_laysAhead ∈ zTB := zmem (i := 1515) (by decide +kernel) rfl
theorem tb_1517 : Cond.instanceMethod yX10_laysAhead ∈ zTB := zmem (i := 1517) (by decide +kernel) rfl
theorem tb_101 : Cond.selects yX10_laysAhead.cls yX10_laysAhead yX10_laysAhead ∈ zTB := zmem (i := 101) (by decide +kernel) rfl
theorem cv_X10_291 : zCV RX10 291 yX10_laysAhead cX10_laysAhead 4 none 1 10 := ⟨⟨tb_1518, tb_124, tb_1515, ⟨by decide, by decide, by decide +kernel⟩, by decide⟩, tb_1517, tb_101, TX10, 29, rfl⟩
set_option maxRecDepth 20000 in
theorem tb_1514 : Cond.code yX10_countsWays cX10_countsWays 4 (some .long) ∈ zTB := zmem (i := 1514) rfl rfl
theorem tb_1511 : Cond.methodLink RX10 294 yX10_countsWays ∈ zTB := zmem (i := 1511) (by decide +kernel) rfl
theorem tb_1513 : Cond.instanceMethod yX10_countsWays ∈ zTB := zmem (i := 1513) (by decide +kernel) rfl
theorem tb_100 : Cond.selects yX10_countsWays.cls yX10_countsWays yX10_countsWays ∈ zTB := zmem (i := 100) (by decide +kernel) rfl
theorem cv_X10_294 : zCV RX10 294 yX10_countsWays cX10_countsWays 4 (some .long) 1 10 := ⟨⟨tb_1514, tb_124, tb_1511, ⟨by decide, by decide, by decide +kernel⟩, by decide⟩, tb_1513, tb_100, TX10, 29, rfl⟩
theorem tb_971 : Jvm.Cond.constant RJ6 265 (1431655765) ∈ zTB := zmem (i := 971) (by decide +kernel) rfl
theorem tb_972 : Jvm.Cond.constant RJ6 266 (858993459) ∈ zTB := zmem (i := 972) (by decide +kernel) rfl
theorem tb_973 : Jvm.Cond.constant RJ6 267 (252645135) ∈ zTB := zmem (i := 973) (by decide +kernel) rfl
set_option maxRecDepth 20000 in
theorem tb_977 : Cond.code yX3_leastThatCanFollow cX3_leastThatCanFollow 3 (some .int) ∈ zTB := zmem (i := 977) rfl rfl
theorem tb_974 : Cond.methodLink RX3 77 yX3_leastThatCanFollow ∈ zTB := zmem (i := 974) (by decide +kernel) rfl
theorem tb_976 : Cond.instanceMethod yX3_leastThatCanFollow ∈ zTB := zmem (i := 976) (by decide +kernel) rfl
theorem tb_38 : Cond.selects yX3_leastThatCanFollow.cls yX3_leastThatCanFollow yX3_leastThatCanFollow ∈ zTB := zmem (i := 38) (by decide +kernel) rfl
theorem cv_X3_77 : zCV RX3 77 yX3_leastThatCanFollow cX3_leastThatCanFollow 3 (some .int) 1 3 := ⟨⟨tb_977, tb_122, tb_974, ⟨by decide, by decide, by decide +kernel⟩, by decide⟩, tb_976, tb_38, TX3, 3, rfl⟩
set_option maxRecDepth 20000 in
theorem tb_970 : Cond.code yJ6_bitCount_0f7a4 cJ6_bitCount_0f7a4 1 (some .int) ∈ zTB := zmem (i := 970) rfl rfl
theorem tb_133 : Cond.initialized RJ6 ∈ zTB := zmem (i := 133) (by decide +kernel) rfl
theorem tb_968 : Cond.methodLink RX3 71 yJ6_bitCount_0f7a4 ∈ zTB := zmem (i := 968) (by decide +kernel) rfl
theorem tb_969 : Cond.static yJ6_bitCount_0f7a4 ∈ zTB := zmem (i := 969) (by decide +kernel) rfl
theorem cs_X3_71 : zCS RX3 71 yJ6_bitCount_0f7a4 cJ6_bitCount_0f7a4 1 (some .int) 1 := ⟨⟨tb_970, tb_133, tb_968, ⟨by decide, by decide, by decide +kernel⟩, by decide⟩, tb_969⟩
set_option maxRecDepth 20000 in
theorem tb_967 : Cond.code yX3_inFirst cX3_inFirst 5 (some .int) ∈ zTB := zmem (i := 967) rfl rfl
theorem tb_964 : Cond.methodLink RX9 264 yX3_inFirst ∈ zTB := zmem (i := 964) (by decide +kernel) rfl
theorem tb_965 : Cond.instanceMethod yX3_inFirst ∈ zTB := zmem (i := 965) (by decide +kernel) rfl
theorem tb_966 : Cond.selects yX3_inFirst.cls yX3_inFirst yX3_inFirst ∈ zTB := zmem (i := 966) (by decide +kernel) rfl
theorem cv_X9_264 : zCV RX9 264 yX3_inFirst cX3_inFirst 5 (some .int) 1 3 := ⟨⟨tb_967, tb_122, tb_964, ⟨by decide, by decide, by decide +kernel⟩, by decide⟩, tb_965, tb_966, TX3, 3, rfl⟩
theorem tb_1524 : Cond.methodLink RX10 300 yJ6_bitCount_0f7a4 ∈ zTB := zmem (i := 1524) (by decide +kernel) rfl
theorem cs_X10_300 : zCS RX10 300 yJ6_bitCount_0f7a4 cJ6_bitCount_0f7a4 1 (some .int) 1 := ⟨⟨tb_970, tb_133, tb_1524, ⟨by decide, by decide, by decide +kernel⟩, by decide⟩, tb_969⟩
set_option maxRecDepth 20000 in
theorem tb_985 : Cond.code yX3_placesOf cX3_placesOf 7 (some .int) ∈ zTB := zmem (i := 985) rfl rfl
theorem tb_982 : Cond.methodLink RX9 267 yX3_placesOf ∈ zTB := zmem (i := 982) (by decide +kernel) rfl
theorem tb_983 : Cond.instanceMethod yX3_placesOf ∈ zTB := zmem (i := 983) (by decide +kernel) rfl
theorem tb_984 : Cond.selects yX3_placesOf.cls yX3_placesOf yX3_placesOf ∈ zTB := zmem (i := 984) (by decide +kernel) rfl
theorem cv_X9_267 : zCV RX9 267 yX3_placesOf cX3_placesOf 7 (some .int) 1 3 := ⟨⟨tb_985, tb_122, tb_982, ⟨by decide, by decide, by decide +kernel⟩, by decide⟩, tb_983, tb_984, TX3, 3, rfl⟩
set_option maxRecDepth 20000 in
theorem tb_1532 : Cond.code yX10_aheadOf cX10_aheadOf 5 (some .int) ∈ zTB := zmem (i := 1532) rfl rfl
theorem tb_1529 : Cond.methodLink RX10 303 yX10_aheadOf ∈ zTB := zmem (i := 1529) (by decide +kernel) rfl
theorem tb_1531 : Cond.instanceMethod yX10_aheadOf ∈ zTB := zmem (i := 1531) (by decide +kernel) rfl
theorem tb_102 : Cond.selects yX10_aheadOf.cls yX10_aheadOf yX10_aheadOf ∈ zTB := zmem (i := 102) (by decide +kernel) rfl
theorem cv_X10_303 : zCV RX10 303 yX10_aheadOf cX10_aheadOf 5 (some .int) 1 10 := ⟨⟨tb_1532, tb_124, tb_1529, ⟨by decide, by decide, by decide +kernel⟩, by decide⟩, tb_1531, tb_102, TX10, 29, rfl⟩
theorem tb_990 : Jvm.Cond.constant RX9 270 (-2147483648) ∈ zTB := zmem (i := 990) (by decide +kernel) rfl
theorem tb_431 : Cond.fieldLink RX9 65 "TraitLines" "sender" "LTraitLines$Sender;" ∈ zTB := zmem (i := 431) (by decide +kernel) rfl
theorem fl_X9_65 : zFL RX9 65 9 11 := ⟨RX9, TX9, 13, rfl, uw_9, by decide, rfl, tb_431⟩
theorem tb_379 : Cond.fieldLink RX6 9 "TraitLines$Sender" "world" "LTraitLines$World;" ∈ zTB := zmem (i := 379) (by decide +kernel) rfl
theorem uw_6 : ∀ w ∈ u_ws RX6 TX6 11, w ∈ zTB := by decide +kernel
theorem fw_X6_9 : zFW RX6 9 6 0 (.object "TraitLines$World") := ⟨RX6, TX6, 11, tyX6, rfl, uw_6, by decide, rfl, tb_379, tyX6_ok, nmX6, rfl, by decide +kernel⟩
theorem tb_380 : Cond.fieldLink RX6 15 "TraitLines$Sender" "flats" "LTraitLines$Flats;" ∈ zTB := zmem (i := 380) (by decide +kernel) rfl
theorem fw_X6_15 : zFW RX6 15 6 1 (.object "TraitLines$Flats") := ⟨RX6, TX6, 11, tyX6, rfl, uw_6, by decide, rfl, tb_380, tyX6_ok, nmX6, rfl, by decide +kernel⟩
theorem tb_381 : Cond.fieldLink RX6 19 "TraitLines$Sender" "lines" "LTraitLines$Lines;" ∈ zTB := zmem (i := 381) (by decide +kernel) rfl
theorem fw_X6_19 : zFW RX6 19 6 2 (.object "TraitLines$Lines") := ⟨RX6, TX6, 11, tyX6, rfl, uw_6, by decide, rfl, tb_381, tyX6_ok, nmX6, rfl, by decide +kernel⟩
theorem tb_382 : Cond.fieldLink RX6 23 "TraitLines$Sender" "receiver" "I" ∈ zTB := zmem (i := 382) (by decide +kernel) rfl
theorem fw_X6_23 : zFW RX6 23 6 3 .int := ⟨RX6, TX6, 11, tyX6, rfl, uw_6, by decide, rfl, tb_382, tyX6_ok, nmX6, rfl, by decide +kernel⟩
theorem tb_383 : Cond.fieldLink RX6 27 "TraitLines$Sender" "ending" "I" ∈ zTB := zmem (i := 383) (by decide +kernel) rfl
theorem fw_X6_27 : zFW RX6 27 6 4 .int := ⟨RX6, TX6, 11, tyX6, rfl, uw_6, by decide, rfl, tb_383, tyX6_ok, nmX6, rfl, by decide +kernel⟩
theorem tb_387 : Cond.fieldLink RX6 30 "TraitLines$Sender" "calls" "I" ∈ zTB := zmem (i := 387) (by decide +kernel) rfl
theorem fw_X6_30 : zFW RX6 30 6 6 .int := ⟨RX6, TX6, 11, tyX6, rfl, uw_6, by decide, rfl, tb_387, tyX6_ok, nmX6, rfl, by decide +kernel⟩
theorem tb_389 : Cond.fieldLink RX6 33 "TraitLines$Sender" "deepest" "I" ∈ zTB := zmem (i := 389) (by decide +kernel) rfl
theorem fw_X6_33 : zFW RX6 33 6 7 .int := ⟨RX6, TX6, 11, tyX6, rfl, uw_6, by decide, rfl, tb_389, tyX6_ok, nmX6, rfl, by decide +kernel⟩
theorem tb_391 : Cond.fieldLink RX6 36 "TraitLines$Sender" "firstType" "I" ∈ zTB := zmem (i := 391) (by decide +kernel) rfl
theorem fw_X6_36 : zFW RX6 36 6 8 .int := ⟨RX6, TX6, 11, tyX6, rfl, uw_6, by decide, rfl, tb_391, tyX6_ok, nmX6, rfl, by decide +kernel⟩
theorem tb_393 : Cond.fieldLink RX6 39 "TraitLines$Sender" "endDepth" "I" ∈ zTB := zmem (i := 393) (by decide +kernel) rfl
theorem fw_X6_39 : zFW RX6 39 6 9 .int := ⟨RX6, TX6, 11, tyX6, rfl, uw_6, by decide, rfl, tb_393, tyX6_ok, nmX6, rfl, by decide +kernel⟩
theorem tb_395 : Cond.fieldLink RX6 42 "TraitLines$Sender" "originBits" "I" ∈ zTB := zmem (i := 395) (by decide +kernel) rfl
theorem fw_X6_42 : zFW RX6 42 6 10 .int := ⟨RX6, TX6, 11, tyX6, rfl, uw_6, by decide, rfl, tb_395, tyX6_ok, nmX6, rfl, by decide +kernel⟩
theorem tb_385 : Cond.fieldLink RX6 45 "TraitLines$Sender" "value" "I" ∈ zTB := zmem (i := 385) (by decide +kernel) rfl
theorem fw_X6_45 : zFW RX6 45 6 5 .int := ⟨RX6, TX6, 11, tyX6, rfl, uw_6, by decide, rfl, tb_385, tyX6_ok, nmX6, rfl, by decide +kernel⟩
theorem fl_X6_19 : zFL RX6 19 6 2 := ⟨RX6, TX6, 11, rfl, uw_6, by decide, rfl, tb_381⟩
theorem tb_323 : Cond.fieldLink RX6 48 "TraitLines$Lines" "lengths" "[I" ∈ zTB := zmem (i := 323) (by decide +kernel) rfl
theorem fl_X6_48 : zFL RX6 48 2 1 := ⟨RX2, TX2, 10, rfl, uw_2, by decide, rfl, tb_323⟩
set_option maxRecDepth 20000 in
theorem tb_1006 : Cond.code yX6_stop cX6_stop 3 (some .int) ∈ zTB := zmem (i := 1006) rfl rfl
theorem tb_123 : Cond.initialized RX6 ∈ zTB := zmem (i := 123) (by decide +kernel) rfl
theorem tb_1003 : Cond.methodLink RX6 58 yX6_stop ∈ zTB := zmem (i := 1003) (by decide +kernel) rfl
theorem tb_1005 : Cond.instanceMethod yX6_stop ∈ zTB := zmem (i := 1005) (by decide +kernel) rfl
theorem tb_41 : Cond.selects yX6_stop.cls yX6_stop yX6_stop ∈ zTB := zmem (i := 41) (by decide +kernel) rfl
theorem cv_X6_58 : zCV RX6 58 yX6_stop cX6_stop 3 (some .int) 2 6 := ⟨⟨tb_1006, tb_123, tb_1003, ⟨by decide, by decide, by decide +kernel⟩, by decide⟩, tb_1005, tb_41, TX6, 11, rfl⟩
theorem fl_X6_30 : zFL RX6 30 6 6 := ⟨RX6, TX6, 11, rfl, uw_6, by decide, rfl, tb_387⟩
theorem fl_X6_33 : zFL RX6 33 6 7 := ⟨RX6, TX6, 11, rfl, uw_6, by decide, rfl, tb_389⟩
theorem fl_X6_23 : zFL RX6 23 6 3 := ⟨RX6, TX6, 11, rfl, uw_6, by decide, rfl, tb_382⟩
theorem fl_X6_15 : zFL RX6 15 6 1 := ⟨RX6, TX6, 11, rfl, uw_6, by decide, rfl, tb_380⟩
theorem tb_320 : Cond.fieldLink RX6 67 "TraitLines$Lines" "lines" "[[I" ∈ zTB := zmem (i := 320) (by decide +kernel) rfl
theorem fl_X6_67 : zFL RX6 67 2 0 := ⟨RX2, TX2, 10, rfl, uw_2, by decide, rfl, tb_320⟩
theorem fl_X6_9 : zFL RX6 9 6 0 := ⟨RX6, TX6, 11, rfl, uw_6, by decide, rfl, tb_379⟩
theorem tb_227 : Cond.fieldLink RX6 81 "TraitLines$World" "units" "[LTraitLines$Unit;" ∈ zTB := zmem (i := 227) (by decide +kernel) rfl
theorem fl_X6_81 : zFL RX6 81 8 0 := ⟨RX8, TX8, 2, rfl, uw_8, by decide, rfl, tb_227⟩
theorem fl_X6_42 : zFL RX6 42 6 10 := ⟨RX6, TX6, 11, rfl, uw_6, by decide, rfl, tb_395⟩
theorem tb_199 : Cond.fieldLink RX6 87 "TraitLines$Unit" "termCounts" "[I" ∈ zTB := zmem (i := 199) (by decide +kernel) rfl
theorem fl_X6_87 : zFL RX6 87 7 6 := ⟨RX7, TX7, 9, rfl, uw_7, by decide, rfl, tb_199⟩
theorem fl_X6_27 : zFL RX6 27 6 4 := ⟨RX6, TX6, 11, rfl, uw_6, by decide, rfl, tb_383⟩
set_option maxRecDepth 20000 in
theorem tb_1002 : Cond.code yX6_lookFor cX6_lookFor 7 (some .int) ∈ zTB := zmem (i := 1002) rfl rfl
theorem tb_999 : Cond.methodLink RX6 54 yX6_lookFor ∈ zTB := zmem (i := 999) (by decide +kernel) rfl
theorem tb_1001 : Cond.instanceMethod yX6_lookFor ∈ zTB := zmem (i := 1001) (by decide +kernel) rfl
theorem tb_40 : Cond.selects yX6_lookFor.cls yX6_lookFor yX6_lookFor ∈ zTB := zmem (i := 40) (by decide +kernel) rfl
theorem cv_X6_54 : zCV RX6 54 yX6_lookFor cX6_lookFor 7 (some .int) 3 6 := ⟨⟨tb_1002, tb_123, tb_999, ⟨by decide, by decide, by decide +kernel⟩, by decide⟩, tb_1001, tb_40, TX6, 11, rfl⟩
theorem tb_1016 : Cond.methodLink RX6 92 yX7_termAt ∈ zTB := zmem (i := 1016) (by decide +kernel) rfl
theorem cv_X6_92 : zCV RX6 92 yX7_termAt cX7_termAt 3 (some .int) 2 7 := ⟨⟨tb_719, tb_116, tb_1016, ⟨by decide, by decide, by decide +kernel⟩, by decide⟩, tb_717, tb_718, TX7, 9, rfl⟩
theorem tb_1015 : Cond.methodLink RX6 78 yX0_firstSource ∈ zTB := zmem (i := 1015) (by decide +kernel) rfl
theorem cv_X6_78 : zCV RX6 78 yX0_firstSource cX0_firstSource 3 (some .int) 2 0 := ⟨⟨tb_905, tb_120, tb_1015, ⟨by decide, by decide, by decide +kernel⟩, by decide⟩, tb_903, tb_904, TX0, 3, rfl⟩
set_option maxRecDepth 20000 in
theorem tb_1014 : Cond.code yX6_addTerms cX6_addTerms 11 (some .int) ∈ zTB := zmem (i := 1014) rfl rfl
theorem tb_1011 : Cond.methodLink RX6 75 yX6_addTerms ∈ zTB := zmem (i := 1011) (by decide +kernel) rfl
theorem tb_1013 : Cond.instanceMethod yX6_addTerms ∈ zTB := zmem (i := 1013) (by decide +kernel) rfl
theorem tb_42 : Cond.selects yX6_addTerms.cls yX6_addTerms yX6_addTerms ∈ zTB := zmem (i := 42) (by decide +kernel) rfl
theorem cv_X6_75 : zCV RX6 75 yX6_addTerms cX6_addTerms 11 (some .int) 3 6 := ⟨⟨tb_1014, tb_123, tb_1011, ⟨by decide, by decide, by decide +kernel⟩, by decide⟩, tb_1013, tb_42, TX6, 11, rfl⟩
theorem tb_1010 : Cond.methodLink RX6 70 yX0_kindOf ∈ zTB := zmem (i := 1010) (by decide +kernel) rfl
theorem cv_X6_70 : zCV RX6 70 yX0_kindOf cX0_kindOf 3 (some .int) 2 0 := ⟨⟨tb_878, tb_120, tb_1010, ⟨by decide, by decide, by decide +kernel⟩, by decide⟩, tb_876, tb_877, TX0, 3, rfl⟩
theorem tb_1007 : Cond.methodLink RX6 62 Lib.Math.max.name ∈ zTB := zmem (i := 1007) (by decide +kernel) rfl
set_option maxRecDepth 20000 in
theorem tb_998 : Cond.code yX6_run cX6_run 7 none ∈ zTB := zmem (i := 998) rfl rfl
theorem tb_995 : Cond.methodLink RX9 292 yX6_run ∈ zTB := zmem (i := 995) (by decide +kernel) rfl
theorem tb_996 : Cond.instanceMethod yX6_run ∈ zTB := zmem (i := 996) (by decide +kernel) rfl
theorem tb_997 : Cond.selects yX6_run.cls yX6_run yX6_run ∈ zTB := zmem (i := 997) (by decide +kernel) rfl
theorem cv_X9_292 : zCV RX9 292 yX6_run cX6_run 7 none 5 6 := ⟨⟨tb_998, tb_123, tb_995, ⟨by decide, by decide, by decide +kernel⟩, by decide⟩, tb_996, tb_997, TX6, 11, rfl⟩
theorem tb_394 : Cond.fieldLink RX9 289 "TraitLines$Sender" "endDepth" "I" ∈ zTB := zmem (i := 394) (by decide +kernel) rfl
theorem fl_X9_289 : zFL RX9 289 6 9 := ⟨RX6, TX6, 11, rfl, uw_6, by decide, rfl, tb_394⟩
theorem tb_392 : Cond.fieldLink RX9 286 "TraitLines$Sender" "firstType" "I" ∈ zTB := zmem (i := 392) (by decide +kernel) rfl
theorem fl_X9_286 : zFL RX9 286 6 8 := ⟨RX6, TX6, 11, rfl, uw_6, by decide, rfl, tb_392⟩
theorem tb_390 : Cond.fieldLink RX9 283 "TraitLines$Sender" "deepest" "I" ∈ zTB := zmem (i := 390) (by decide +kernel) rfl
theorem fl_X9_283 : zFL RX9 283 6 7 := ⟨RX6, TX6, 11, rfl, uw_6, by decide, rfl, tb_390⟩
theorem tb_388 : Cond.fieldLink RX9 280 "TraitLines$Sender" "calls" "I" ∈ zTB := zmem (i := 388) (by decide +kernel) rfl
theorem fl_X9_280 : zFL RX9 280 6 6 := ⟨RX6, TX6, 11, rfl, uw_6, by decide, rfl, tb_388⟩
theorem tb_386 : Cond.fieldLink RX9 277 "TraitLines$Sender" "value" "I" ∈ zTB := zmem (i := 386) (by decide +kernel) rfl
theorem fl_X9_277 : zFL RX9 277 6 5 := ⟨RX6, TX6, 11, rfl, uw_6, by decide, rfl, tb_386⟩
theorem tb_384 : Cond.fieldLink RX9 274 "TraitLines$Sender" "ending" "I" ∈ zTB := zmem (i := 384) (by decide +kernel) rfl
theorem fl_X9_274 : zFL RX9 274 6 4 := ⟨RX6, TX6, 11, rfl, uw_6, by decide, rfl, tb_384⟩
set_option maxRecDepth 20000 in
theorem tb_994 : Cond.code yX9_runSend cX9_runSend 3 none ∈ zTB := zmem (i := 994) rfl rfl
theorem tb_991 : Cond.methodLink RX9 271 yX9_runSend ∈ zTB := zmem (i := 991) (by decide +kernel) rfl
theorem tb_993 : Cond.instanceMethod yX9_runSend ∈ zTB := zmem (i := 993) (by decide +kernel) rfl
theorem tb_39 : Cond.selects yX9_runSend.cls yX9_runSend yX9_runSend ∈ zTB := zmem (i := 39) (by decide +kernel) rfl
theorem cv_X9_271 : zCV RX9 271 yX9_runSend cX9_runSend 3 none 2 9 := ⟨⟨tb_994, tb_114, tb_991, ⟨by decide, by decide, by decide +kernel⟩, by decide⟩, tb_993, tb_39, TX9, 13, rfl⟩
theorem tb_1537 : Jvm.Cond.constant RX10 338 (-2147483648) ∈ zTB := zmem (i := 1537) (by decide +kernel) rfl
theorem tb_1118 : Cond.fieldLink RX10 324 "TraitLinesModel" "sentTo" "I" ∈ zTB := zmem (i := 1118) (by decide +kernel) rfl
theorem fw_X10_324 : zFW RX10 324 10 22 .int := ⟨RX10, TX10, 29, tyX10, rfl, uw_10, by decide, rfl, tb_1118, tyX10_ok, nmX10, rfl, by decide +kernel⟩
theorem tb_1119 : Cond.fieldLink RX10 306 "TraitLinesModel" "ended" "I" ∈ zTB := zmem (i := 1119) (by decide +kernel) rfl
theorem fw_X10_306 : zFW RX10 306 10 23 .int := ⟨RX10, TX10, 29, tyX10, rfl, uw_10, by decide, rfl, tb_1119, tyX10_ok, nmX10, rfl, by decide +kernel⟩
theorem tb_1120 : Cond.fieldLink RX10 312 "TraitLinesModel" "calls" "I" ∈ zTB := zmem (i := 1120) (by decide +kernel) rfl
theorem fw_X10_312 : zFW RX10 312 10 24 .int := ⟨RX10, TX10, 29, tyX10, rfl, uw_10, by decide, rfl, tb_1120, tyX10_ok, nmX10, rfl, by decide +kernel⟩
theorem tb_1121 : Cond.fieldLink RX10 318 "TraitLinesModel" "deepest" "I" ∈ zTB := zmem (i := 1121) (by decide +kernel) rfl
theorem fw_X10_318 : zFW RX10 318 10 25 .int := ⟨RX10, TX10, 29, tyX10, rfl, uw_10, by decide, rfl, tb_1121, tyX10_ok, nmX10, rfl, by decide +kernel⟩
theorem tb_1122 : Cond.fieldLink RX10 330 "TraitLinesModel" "firstDone" "I" ∈ zTB := zmem (i := 1122) (by decide +kernel) rfl
theorem fw_X10_330 : zFW RX10 330 10 26 .int := ⟨RX10, TX10, 29, tyX10, rfl, uw_10, by decide, rfl, tb_1122, tyX10_ok, nmX10, rfl, by decide +kernel⟩
theorem tb_1123 : Cond.fieldLink RX10 309 "TraitLinesModel" "endedAt" "I" ∈ zTB := zmem (i := 1123) (by decide +kernel) rfl
theorem fw_X10_309 : zFW RX10 309 10 27 .int := ⟨RX10, TX10, 29, tyX10, rfl, uw_10, by decide, rfl, tb_1123, tyX10_ok, nmX10, rfl, by decide +kernel⟩
theorem tb_1124 : Cond.fieldLink RX10 333 "TraitLinesModel" "origin" "I" ∈ zTB := zmem (i := 1124) (by decide +kernel) rfl
theorem fw_X10_333 : zFW RX10 333 10 28 .int := ⟨RX10, TX10, 29, tyX10, rfl, uw_10, by decide, rfl, tb_1124, tyX10_ok, nmX10, rfl, by decide +kernel⟩
set_option maxRecDepth 20000 in
theorem tb_1549 : Cond.code yX10_ends cX10_ends 3 none ∈ zTB := zmem (i := 1549) rfl rfl
theorem tb_1546 : Cond.methodLink RX10 315 yX10_ends ∈ zTB := zmem (i := 1546) (by decide +kernel) rfl
theorem tb_1548 : Cond.instanceMethod yX10_ends ∈ zTB := zmem (i := 1548) (by decide +kernel) rfl
theorem tb_105 : Cond.selects yX10_ends.cls yX10_ends yX10_ends ∈ zTB := zmem (i := 105) (by decide +kernel) rfl
theorem cv_X10_315 : zCV RX10 315 yX10_ends cX10_ends 3 none 2 10 := ⟨⟨tb_1549, tb_124, tb_1546, ⟨by decide, by decide, by decide +kernel⟩, by decide⟩, tb_1548, tb_105, TX10, 29, rfl⟩
theorem fl_X10_312 : zFL RX10 312 10 24 := ⟨RX10, TX10, 29, rfl, uw_10, by decide, rfl, tb_1120⟩
theorem fl_X10_318 : zFL RX10 318 10 25 := ⟨RX10, TX10, 29, rfl, uw_10, by decide, rfl, tb_1121⟩
theorem fl_X10_324 : zFL RX10 324 10 22 := ⟨RX10, TX10, 29, rfl, uw_10, by decide, rfl, tb_1118⟩
theorem fl_X10_330 : zFL RX10 330 10 26 := ⟨RX10, TX10, 29, rfl, uw_10, by decide, rfl, tb_1122⟩
theorem fl_X10_333 : zFL RX10 333 10 28 := ⟨RX10, TX10, 29, rfl, uw_10, by decide, rfl, tb_1124⟩
theorem fl_X10_306 : zFL RX10 306 10 23 := ⟨RX10, TX10, 29, rfl, uw_10, by decide, rfl, tb_1119⟩
set_option maxRecDepth 20000 in
theorem tb_1545 : Cond.code yX10_calls cX10_calls 8 (some .int) ∈ zTB := zmem (i := 1545) rfl rfl
theorem tb_1542 : Cond.methodLink RX10 336 yX10_calls ∈ zTB := zmem (i := 1542) (by decide +kernel) rfl
theorem tb_1544 : Cond.instanceMethod yX10_calls ∈ zTB := zmem (i := 1544) (by decide +kernel) rfl
theorem tb_104 : Cond.selects yX10_calls.cls yX10_calls yX10_calls ∈ zTB := zmem (i := 104) (by decide +kernel) rfl
theorem cv_X10_336 : zCV RX10 336 yX10_calls cX10_calls 8 (some .int) 3 10 := ⟨⟨tb_1545, tb_124, tb_1542, ⟨by decide, by decide, by decide +kernel⟩, by decide⟩, tb_1544, tb_104, TX10, 29, rfl⟩
set_option maxRecDepth 20000 in
theorem tb_1554 : Cond.code yX10_works cX10_works 10 (some .int) ∈ zTB := zmem (i := 1554) rfl rfl
theorem tb_1551 : Cond.methodLink RX10 327 yX10_works ∈ zTB := zmem (i := 1551) (by decide +kernel) rfl
theorem tb_1553 : Cond.instanceMethod yX10_works ∈ zTB := zmem (i := 1553) (by decide +kernel) rfl
theorem tb_106 : Cond.selects yX10_works.cls yX10_works yX10_works ∈ zTB := zmem (i := 106) (by decide +kernel) rfl
theorem cv_X10_327 : zCV RX10 327 yX10_works cX10_works 10 (some .int) 4 10 := ⟨⟨tb_1554, tb_124, tb_1551, ⟨by decide, by decide, by decide +kernel⟩, by decide⟩, tb_1553, tb_106, TX10, 29, rfl⟩
theorem tb_1550 : Cond.methodLink RX10 321 Lib.Math.max.name ∈ zTB := zmem (i := 1550) (by decide +kernel) rfl
theorem fl_X10_309 : zFL RX10 309 10 27 := ⟨RX10, TX10, 29, rfl, uw_10, by decide, rfl, tb_1123⟩
set_option maxRecDepth 20000 in
theorem tb_1541 : Cond.code yX10_sends cX10_sends 4 (some .int) ∈ zTB := zmem (i := 1541) rfl rfl
theorem tb_1538 : Cond.methodLink RX10 339 yX10_sends ∈ zTB := zmem (i := 1538) (by decide +kernel) rfl
theorem tb_1540 : Cond.instanceMethod yX10_sends ∈ zTB := zmem (i := 1540) (by decide +kernel) rfl
theorem tb_103 : Cond.selects yX10_sends.cls yX10_sends yX10_sends ∈ zTB := zmem (i := 103) (by decide +kernel) rfl
theorem cv_X10_339 : zCV RX10 339 yX10_sends cX10_sends 4 (some .int) 2 10 := ⟨⟨tb_1541, tb_124, tb_1538, ⟨by decide, by decide, by decide +kernel⟩, by decide⟩, tb_1540, tb_103, TX10, 29, rfl⟩
set_option maxRecDepth 20000 in
theorem tb_1032 : Cond.code yX9_bitsAlongLine cX9_bitsAlongLine 5 (some .int) ∈ zTB := zmem (i := 1032) rfl rfl
theorem tb_1029 : Cond.methodLink RX9 299 yX9_bitsAlongLine ∈ zTB := zmem (i := 1029) (by decide +kernel) rfl
theorem tb_1031 : Cond.instanceMethod yX9_bitsAlongLine ∈ zTB := zmem (i := 1031) (by decide +kernel) rfl
theorem tb_44 : Cond.selects yX9_bitsAlongLine.cls yX9_bitsAlongLine yX9_bitsAlongLine ∈ zTB := zmem (i := 44) (by decide +kernel) rfl
theorem cv_X9_299 : zCV RX9 299 yX9_bitsAlongLine cX9_bitsAlongLine 5 (some .int) 2 9 := ⟨⟨tb_1032, tb_114, tb_1029, ⟨by decide, by decide, by decide +kernel⟩, by decide⟩, tb_1031, tb_44, TX9, 13, rfl⟩
set_option maxRecDepth 20000 in
theorem tb_1028 : Cond.code yX9_lackedBits cX9_lackedBits 3 (some .int) ∈ zTB := zmem (i := 1028) rfl rfl
theorem tb_1025 : Cond.methodLink RX9 296 yX9_lackedBits ∈ zTB := zmem (i := 1025) (by decide +kernel) rfl
theorem tb_1027 : Cond.instanceMethod yX9_lackedBits ∈ zTB := zmem (i := 1027) (by decide +kernel) rfl
theorem tb_43 : Cond.selects yX9_lackedBits.cls yX9_lackedBits yX9_lackedBits ∈ zTB := zmem (i := 43) (by decide +kernel) rfl
theorem cv_X9_296 : zCV RX9 296 yX9_lackedBits cX9_lackedBits 3 (some .int) 1 9 := ⟨⟨tb_1028, tb_114, tb_1025, ⟨by decide, by decide, by decide +kernel⟩, by decide⟩, tb_1027, tb_43, TX9, 13, rfl⟩
set_option maxRecDepth 20000 in
theorem tb_1570 : Cond.code yX10_along cX10_along 5 (some .int) ∈ zTB := zmem (i := 1570) rfl rfl
theorem tb_1567 : Cond.methodLink RX10 342 yX10_along ∈ zTB := zmem (i := 1567) (by decide +kernel) rfl
theorem tb_1569 : Cond.instanceMethod yX10_along ∈ zTB := zmem (i := 1569) (by decide +kernel) rfl
theorem tb_108 : Cond.selects yX10_along.cls yX10_along yX10_along ∈ zTB := zmem (i := 108) (by decide +kernel) rfl
theorem cv_X10_342 : zCV RX10 342 yX10_along cX10_along 5 (some .int) 2 10 := ⟨⟨tb_1570, tb_124, tb_1567, ⟨by decide, by decide, by decide +kernel⟩, by decide⟩, tb_1569, tb_108, TX10, 29, rfl⟩
set_option maxRecDepth 20000 in
theorem tb_1566 : Cond.code yX10_lacksOf cX10_lacksOf 2 (some .int) ∈ zTB := zmem (i := 1566) rfl rfl
theorem tb_1563 : Cond.methodLink RX10 345 yX10_lacksOf ∈ zTB := zmem (i := 1563) (by decide +kernel) rfl
theorem tb_1565 : Cond.instanceMethod yX10_lacksOf ∈ zTB := zmem (i := 1565) (by decide +kernel) rfl
theorem tb_107 : Cond.selects yX10_lacksOf.cls yX10_lacksOf yX10_lacksOf ∈ zTB := zmem (i := 107) (by decide +kernel) rfl
theorem cv_X10_345 : zCV RX10 345 yX10_lacksOf cX10_lacksOf 2 (some .int) 1 10 := ⟨⟨tb_1566, tb_124, tb_1563, ⟨by decide, by decide, by decide +kernel⟩, by decide⟩, tb_1565, tb_107, TX10, 29, rfl⟩
theorem tb_396 : Cond.fieldLink RX9 302 "TraitLines$Sender" "originBits" "I" ∈ zTB := zmem (i := 396) (by decide +kernel) rfl
theorem fl_X9_302 : zFL RX9 302 6 10 := ⟨RX6, TX6, 11, rfl, uw_6, by decide, rfl, tb_396⟩
theorem tb_1049 : Jvm.Cond.constantLong RX9 305 (9221120237041090560) ∈ zTB := zmem (i := 1049) (by decide +kernel) rfl
theorem tb_1053 : Jvm.Cond.constantLong RX9 311 (2) ∈ zTB := zmem (i := 1053) (by decide +kernel) rfl
theorem tb_1054 : Jvm.Cond.constantLong RX9 313 (1023) ∈ zTB := zmem (i := 1054) (by decide +kernel) rfl
set_option maxRecDepth 20000 in
theorem tb_1052 : Cond.code yX9_quotientBits cX9_quotientBits 10 (some .long) ∈ zTB := zmem (i := 1052) rfl rfl
theorem tb_1050 : Cond.methodLink RX9 307 yX9_quotientBits ∈ zTB := zmem (i := 1050) (by decide +kernel) rfl
theorem tb_1051 : Cond.static yX9_quotientBits ∈ zTB := zmem (i := 1051) (by decide +kernel) rfl
theorem cs_X9_307 : zCS RX9 307 yX9_quotientBits cX9_quotientBits 10 (some .long) 2 := ⟨⟨tb_1052, tb_114, tb_1050, ⟨by decide, by decide, by decide +kernel⟩, by decide⟩, tb_1051⟩
theorem tb_1588 : Cond.methodLink RX10 352 yJxe99ae_doubleToLongBits_ccdee ∈ zTB := zmem (i := 1588) (by decide +kernel) rfl
theorem tb_1587 : Jvm.Cond.constantDouble RX10 350 (9221120237041090560) ∈ zTB := zmem (i := 1587) (by decide +kernel) rfl
theorem tb_1059 : Cond.methodLink RX9 315 yX8_indexOf ∈ zTB := zmem (i := 1059) (by decide +kernel) rfl
theorem cv_X9_315 : zCV RX9 315 yX8_indexOf cX8_indexOf 3 (some .int) 1 8 := ⟨⟨tb_556, tb_115, tb_1059, ⟨by decide, by decide, by decide +kernel⟩, by decide⟩, tb_554, tb_555, TX8, 2, rfl⟩
set_option maxRecDepth 20000 in
theorem tb_1089 : Cond.code yX9_bitsOfLowest cX9_bitsOfLowest 4 (some .int) ∈ zTB := zmem (i := 1089) rfl rfl
theorem tb_1086 : Cond.methodLink RX9 333 yX9_bitsOfLowest ∈ zTB := zmem (i := 1086) (by decide +kernel) rfl
theorem tb_1088 : Cond.instanceMethod yX9_bitsOfLowest ∈ zTB := zmem (i := 1088) (by decide +kernel) rfl
theorem tb_49 : Cond.selects yX9_bitsOfLowest.cls yX9_bitsOfLowest yX9_bitsOfLowest ∈ zTB := zmem (i := 49) (by decide +kernel) rfl
theorem cv_X9_333 : zCV RX9 333 yX9_bitsOfLowest cX9_bitsOfLowest 4 (some .int) 0 9 := ⟨⟨tb_1089, tb_114, tb_1086, ⟨by decide, by decide, by decide +kernel⟩, by decide⟩, tb_1088, tb_49, TX9, 13, rfl⟩
theorem tb_1085 : Cond.methodLink RX9 341 yJ6_bitCount_0f7a4 ∈ zTB := zmem (i := 1085) (by decide +kernel) rfl
theorem cs_X9_341 : zCS RX9 341 yJ6_bitCount_0f7a4 cJ6_bitCount_0f7a4 1 (some .int) 1 := ⟨⟨tb_970, tb_133, tb_1085, ⟨by decide, by decide, by decide +kernel⟩, by decide⟩, tb_969⟩
set_option maxRecDepth 20000 in
theorem tb_1084 : Cond.code yX9_conflictCount cX9_conflictCount 3 (some .int) ∈ zTB := zmem (i := 1084) rfl rfl
theorem tb_1081 : Cond.methodLink RX9 330 yX9_conflictCount ∈ zTB := zmem (i := 1081) (by decide +kernel) rfl
theorem tb_1083 : Cond.instanceMethod yX9_conflictCount ∈ zTB := zmem (i := 1083) (by decide +kernel) rfl
theorem tb_48 : Cond.selects yX9_conflictCount.cls yX9_conflictCount yX9_conflictCount ∈ zTB := zmem (i := 48) (by decide +kernel) rfl
theorem cv_X9_330 : zCV RX9 330 yX9_conflictCount cX9_conflictCount 3 (some .int) 0 9 := ⟨⟨tb_1084, tb_114, tb_1081, ⟨by decide, by decide, by decide +kernel⟩, by decide⟩, tb_1083, tb_48, TX9, 13, rfl⟩
theorem tb_1080 : Cond.methodLink RX9 336 Lib.Math.max.name ∈ zTB := zmem (i := 1080) (by decide +kernel) rfl
set_option maxRecDepth 20000 in
theorem tb_1079 : Cond.code yX9_longestLine cX9_longestLine 3 (some .int) ∈ zTB := zmem (i := 1079) rfl rfl
theorem tb_1076 : Cond.methodLink RX9 327 yX9_longestLine ∈ zTB := zmem (i := 1076) (by decide +kernel) rfl
theorem tb_1078 : Cond.instanceMethod yX9_longestLine ∈ zTB := zmem (i := 1078) (by decide +kernel) rfl
theorem tb_47 : Cond.selects yX9_longestLine.cls yX9_longestLine yX9_longestLine ∈ zTB := zmem (i := 47) (by decide +kernel) rfl
theorem cv_X9_327 : zCV RX9 327 yX9_longestLine cX9_longestLine 3 (some .int) 0 9 := ⟨⟨tb_1079, tb_114, tb_1076, ⟨by decide, by decide, by decide +kernel⟩, by decide⟩, tb_1078, tb_47, TX9, 13, rfl⟩
set_option maxRecDepth 20000 in
theorem tb_1075 : Cond.code yX9_bitsOfWhole cX9_bitsOfWhole 4 (some .int) ∈ zTB := zmem (i := 1075) rfl rfl
theorem tb_1072 : Cond.methodLink RX9 324 yX9_bitsOfWhole ∈ zTB := zmem (i := 1072) (by decide +kernel) rfl
theorem tb_1074 : Cond.instanceMethod yX9_bitsOfWhole ∈ zTB := zmem (i := 1074) (by decide +kernel) rfl
theorem tb_46 : Cond.selects yX9_bitsOfWhole.cls yX9_bitsOfWhole yX9_bitsOfWhole ∈ zTB := zmem (i := 46) (by decide +kernel) rfl
theorem cv_X9_324 : zCV RX9 324 yX9_bitsOfWhole cX9_bitsOfWhole 4 (some .int) 0 9 := ⟨⟨tb_1075, tb_114, tb_1072, ⟨by decide, by decide, by decide +kernel⟩, by decide⟩, tb_1074, tb_46, TX9, 13, rfl⟩
set_option maxRecDepth 20000 in
theorem tb_1071 : Cond.code yX9_bitsWithoutLine cX9_bitsWithoutLine 3 (some .int) ∈ zTB := zmem (i := 1071) rfl rfl
theorem tb_1068 : Cond.methodLink RX9 321 yX9_bitsWithoutLine ∈ zTB := zmem (i := 1068) (by decide +kernel) rfl
theorem tb_1070 : Cond.instanceMethod yX9_bitsWithoutLine ∈ zTB := zmem (i := 1070) (by decide +kernel) rfl
theorem tb_45 : Cond.selects yX9_bitsWithoutLine.cls yX9_bitsWithoutLine yX9_bitsWithoutLine ∈ zTB := zmem (i := 45) (by decide +kernel) rfl
theorem cv_X9_321 : zCV RX9 321 yX9_bitsWithoutLine cX9_bitsWithoutLine 3 (some .int) 0 9 := ⟨⟨tb_1071, tb_114, tb_1068, ⟨by decide, by decide, by decide +kernel⟩, by decide⟩, tb_1070, tb_45, TX9, 13, rfl⟩
set_option maxRecDepth 20000 in
theorem tb_1067 : Cond.code yX8_traitCount cX8_traitCount 3 (some .int) ∈ zTB := zmem (i := 1067) rfl rfl
theorem tb_1064 : Cond.methodLink RX9 318 yX8_traitCount ∈ zTB := zmem (i := 1064) (by decide +kernel) rfl
theorem tb_1065 : Cond.instanceMethod yX8_traitCount ∈ zTB := zmem (i := 1065) (by decide +kernel) rfl
theorem tb_1066 : Cond.selects yX8_traitCount.cls yX8_traitCount yX8_traitCount ∈ zTB := zmem (i := 1066) (by decide +kernel) rfl
theorem cv_X9_318 : zCV RX9 318 yX8_traitCount cX8_traitCount 3 (some .int) 0 8 := ⟨⟨tb_1067, tb_115, tb_1064, ⟨by decide, by decide, by decide +kernel⟩, by decide⟩, tb_1065, tb_1066, TX8, 2, rfl⟩
set_option maxRecDepth 20000 in
theorem tb_1621 : Cond.code yX10_lowest cX10_lowest 5 (some .int) ∈ zTB := zmem (i := 1621) rfl rfl
theorem tb_1618 : Cond.methodLink RX10 365 yX10_lowest ∈ zTB := zmem (i := 1618) (by decide +kernel) rfl
theorem tb_1620 : Cond.instanceMethod yX10_lowest ∈ zTB := zmem (i := 1620) (by decide +kernel) rfl
theorem tb_112 : Cond.selects yX10_lowest.cls yX10_lowest yX10_lowest ∈ zTB := zmem (i := 112) (by decide +kernel) rfl
theorem cv_X10_365 : zCV RX10 365 yX10_lowest cX10_lowest 5 (some .int) 0 10 := ⟨⟨tb_1621, tb_124, tb_1618, ⟨by decide, by decide, by decide +kernel⟩, by decide⟩, tb_1620, tb_112, TX10, 29, rfl⟩
set_option maxRecDepth 20000 in
theorem tb_1617 : Cond.code yX10_most cX10_most 4 (some .int) ∈ zTB := zmem (i := 1617) rfl rfl
theorem tb_1614 : Cond.methodLink RX10 362 yX10_most ∈ zTB := zmem (i := 1614) (by decide +kernel) rfl
theorem tb_1616 : Cond.instanceMethod yX10_most ∈ zTB := zmem (i := 1616) (by decide +kernel) rfl
theorem tb_111 : Cond.selects yX10_most.cls yX10_most yX10_most ∈ zTB := zmem (i := 111) (by decide +kernel) rfl
theorem cv_X10_362 : zCV RX10 362 yX10_most cX10_most 4 (some .int) 1 10 := ⟨⟨tb_1617, tb_124, tb_1614, ⟨by decide, by decide, by decide +kernel⟩, by decide⟩, tb_1616, tb_111, TX10, 29, rfl⟩
set_option maxRecDepth 20000 in
theorem tb_1613 : Cond.code yX10_typesSo cX10_typesSo 5 (some .int) ∈ zTB := zmem (i := 1613) rfl rfl
theorem tb_1610 : Cond.methodLink RX10 359 yX10_typesSo ∈ zTB := zmem (i := 1610) (by decide +kernel) rfl
theorem tb_1612 : Cond.instanceMethod yX10_typesSo ∈ zTB := zmem (i := 1612) (by decide +kernel) rfl
theorem tb_110 : Cond.selects yX10_typesSo.cls yX10_typesSo yX10_typesSo ∈ zTB := zmem (i := 110) (by decide +kernel) rfl
theorem cv_X10_359 : zCV RX10 359 yX10_typesSo cX10_typesSo 5 (some .int) 1 10 := ⟨⟨tb_1613, tb_124, tb_1610, ⟨by decide, by decide, by decide +kernel⟩, by decide⟩, tb_1612, tb_110, TX10, 29, rfl⟩
set_option maxRecDepth 20000 in
theorem tb_1609 : Cond.code yX10_traits cX10_traits 3 (some .int) ∈ zTB := zmem (i := 1609) rfl rfl
theorem tb_1606 : Cond.methodLink RX10 356 yX10_traits ∈ zTB := zmem (i := 1606) (by decide +kernel) rfl
theorem tb_1608 : Cond.instanceMethod yX10_traits ∈ zTB := zmem (i := 1608) (by decide +kernel) rfl
theorem tb_109 : Cond.selects yX10_traits.cls yX10_traits yX10_traits ∈ zTB := zmem (i := 109) (by decide +kernel) rfl
theorem cv_X10_356 : zCV RX10 356 yX10_traits cX10_traits 3 (some .int) 0 10 := ⟨⟨tb_1609, tb_124, tb_1606, ⟨by decide, by decide, by decide +kernel⟩, by decide⟩, tb_1608, tb_109, TX10, 29, rfl⟩
theorem tb_1008 : Cond.static Lib.Math.max.name ∈ zTB := zmem (i := 1008) (by decide +kernel) rfl
set_option maxRecDepth 20000 in
theorem tb_1009 : Cond.code Lib.Math.max.name Lib.Math.max.code 2 (some .int) ∈ zTB := zmem (i := 1009) rfl rfl
theorem tb_481 : Cond.static Lib.Math.min.name ∈ zTB := zmem (i := 481) (by decide +kernel) rfl
set_option maxRecDepth 20000 in
theorem tb_482 : Cond.code Lib.Math.min.name Lib.Math.min.code 2 (some .int) ∈ zTB := zmem (i := 482) rfl rfl
theorem tb_504 : Cond.fieldLink RJ0 38 "java/lang/String" "COMPACT_STRINGS" "Z" ∈ zTB := zmem (i := 504) (by decide +kernel) rfl
theorem tb_1623 : Cond.fieldLink RJ0 15 "java/lang/String" "coder" "B" ∈ zTB := zmem (i := 1623) (by decide +kernel) rfl
set_option maxRecDepth 20000 in
theorem tb_503 : Cond.code yJ0_coder_7d493 cJ0_coder_7d493 1 (some .byte) ∈ zTB := zmem (i := 503) rfl rfl
theorem tb_126 : Cond.initialized RJ0 ∈ zTB := zmem (i := 126) (by decide +kernel) rfl
theorem tb_500 : Cond.methodLink RJ0 335 yJ0_coder_7d493 ∈ zTB := zmem (i := 500) (by decide +kernel) rfl
theorem tb_501 : Cond.instanceMethod yJ0_coder_7d493 ∈ zTB := zmem (i := 501) (by decide +kernel) rfl
theorem tb_502 : Cond.selects yJ0_coder_7d493.cls yJ0_coder_7d493 yJ0_coder_7d493 ∈ zTB := zmem (i := 502) (by decide +kernel) rfl
set_option maxRecDepth 20000 in
theorem tb_513 : Cond.code yJ0_isLatin1_aae02 cJ0_isLatin1_aae02 1 (some .boolean) ∈ zTB := zmem (i := 513) rfl rfl
theorem tb_510 : Cond.methodLink RJ0 492 yJ0_isLatin1_aae02 ∈ zTB := zmem (i := 510) (by decide +kernel) rfl
theorem tb_511 : Cond.instanceMethod yJ0_isLatin1_aae02 ∈ zTB := zmem (i := 511) (by decide +kernel) rfl
theorem tb_512 : Cond.selects yJ0_isLatin1_aae02.cls yJ0_isLatin1_aae02 yJ0_isLatin1_aae02 ∈ zTB := zmem (i := 512) (by decide +kernel) rfl
theorem tb_1622 : Cond.fieldLink RJ0 9 "java/lang/String" "value" "[B" ∈ zTB := zmem (i := 1622) (by decide +kernel) rfl
theorem tb_520 : Cond.fieldLink RJ0 1053 "jdk/internal/util/Preconditions" "SIOOBE_FORMATTER" "Ljava/util/function/BiFunction;" ∈ zTB := zmem (i := 520) (by decide +kernel) rfl
set_option maxRecDepth 20000 in
theorem tb_524 : Cond.code yJ3_checkIndex_8e157 cJ3_checkIndex_8e157 3 (some .int) ∈ zTB := zmem (i := 524) rfl rfl
theorem tb_128 : Cond.initialized RJ3 ∈ zTB := zmem (i := 128) (by decide +kernel) rfl
theorem tb_522 : Cond.methodLink RJ0 1059 yJ3_checkIndex_8e157 ∈ zTB := zmem (i := 522) (by decide +kernel) rfl
theorem tb_523 : Cond.static yJ3_checkIndex_8e157 ∈ zTB := zmem (i := 523) (by decide +kernel) rfl
set_option maxRecDepth 20000 in
theorem tb_519 : Cond.code yJ0_checkIndex_df160 cJ0_checkIndex_df160 2 none ∈ zTB := zmem (i := 519) rfl rfl
theorem tb_517 : Cond.methodLink RJ1 9 yJ0_checkIndex_df160 ∈ zTB := zmem (i := 517) (by decide +kernel) rfl
theorem tb_518 : Cond.static yJ0_checkIndex_df160 ∈ zTB := zmem (i := 518) (by decide +kernel) rfl
theorem cs_J1_9 : zCS RJ1 9 yJ0_checkIndex_df160 cJ0_checkIndex_df160 2 none 2 := ⟨⟨tb_519, tb_126, tb_517, ⟨by decide, by decide, by decide +kernel⟩, by decide⟩, tb_518⟩
set_option maxRecDepth 20000 in
theorem tb_516 : Cond.code yJ1_charAt_3b067 cJ1_charAt_3b067 2 (some .char) ∈ zTB := zmem (i := 516) rfl rfl
theorem tb_127 : Cond.initialized RJ1 ∈ zTB := zmem (i := 127) (by decide +kernel) rfl
theorem tb_514 : Cond.methodLink RJ0 495 yJ1_charAt_3b067 ∈ zTB := zmem (i := 514) (by decide +kernel) rfl
theorem tb_515 : Cond.static yJ1_charAt_3b067 ∈ zTB := zmem (i := 515) (by decide +kernel) rfl
theorem cs_J0_495 : zCS RJ0 495 yJ1_charAt_3b067 cJ1_charAt_3b067 2 (some .char) 2 := ⟨⟨tb_516, tb_127, tb_514, ⟨by decide, by decide, by decide +kernel⟩, by decide⟩, tb_515⟩
set_option maxRecDepth 20000 in
theorem tb_499 : Cond.code yJ0_length_8abf5 cJ0_length_8abf5 1 (some .int) ∈ zTB := zmem (i := 499) rfl rfl
theorem tb_497 : Cond.instanceMethod yJ0_length_8abf5 ∈ zTB := zmem (i := 497) (by decide +kernel) rfl
theorem tb_498 : Cond.selects yJ0_length_8abf5.cls yJ0_length_8abf5 yJ0_length_8abf5 ∈ zTB := zmem (i := 498) (by decide +kernel) rfl
set_option maxRecDepth 20000 in
theorem tb_509 : Cond.code yJ0_charAt_5068e cJ0_charAt_5068e 2 (some .char) ∈ zTB := zmem (i := 509) rfl rfl
theorem tb_507 : Cond.instanceMethod yJ0_charAt_5068e ∈ zTB := zmem (i := 507) (by decide +kernel) rfl
theorem tb_508 : Cond.selects yJ0_charAt_5068e.cls yJ0_charAt_5068e yJ0_charAt_5068e ∈ zTB := zmem (i := 508) (by decide +kernel) rfl
set_option maxRecDepth 20000 in
theorem tb_1593 : Cond.code yJxe99ae_isNaN_b9ae7 cJxe99ae_isNaN_b9ae7 2 (some .boolean) ∈ zTB := zmem (i := 1593) rfl rfl
theorem tb_134 : Cond.initialized RJxe99ae ∈ zTB := zmem (i := 134) (by decide +kernel) rfl
theorem tb_1591 : Cond.methodLink RJxe99ae 122 yJxe99ae_isNaN_b9ae7 ∈ zTB := zmem (i := 1591) (by decide +kernel) rfl
theorem tb_1592 : Cond.static yJxe99ae_isNaN_b9ae7 ∈ zTB := zmem (i := 1592) (by decide +kernel) rfl
theorem cs_Jxe99ae_122 : zCS RJxe99ae 122 yJxe99ae_isNaN_b9ae7 cJxe99ae_isNaN_b9ae7 2 (some .boolean) 1 := ⟨⟨tb_1593, tb_134, tb_1591, ⟨by decide, by decide, by decide +kernel⟩, by decide⟩, tb_1592⟩
theorem tb_1597 : Jvm.Cond.constantLong RJxe99ae 137 (9221120237041090560) ∈ zTB := zmem (i := 1597) (by decide +kernel) rfl
theorem tb_1594 : Cond.methodLink RJxe99ae 134 ⟨"java/lang/Double", "doubleToRawLongBits", "(D)J"⟩ ∈ zTB := zmem (i := 1594) (by decide +kernel) rfl
theorem tb_1596 : Cond.native ⟨"java/lang/Double", "doubleToRawLongBits", "(D)J"⟩ ∈ zTB := zmem (i := 1596) (by decide +kernel) rfl
theorem tb_1595 : Cond.static ⟨"java/lang/Double", "doubleToRawLongBits", "(D)J"⟩ ∈ zTB := zmem (i := 1595) (by decide +kernel) rfl
set_option maxRecDepth 20000 in
theorem tb_1590 : Cond.code yJxe99ae_doubleToLongBits_ccdee cJxe99ae_doubleToLongBits_ccdee 2 (some .long) ∈ zTB := zmem (i := 1590) rfl rfl
theorem tb_1589 : Cond.static yJxe99ae_doubleToLongBits_ccdee ∈ zTB := zmem (i := 1589) (by decide +kernel) rfl
theorem tb_125 : Cond.initialized RJ9 ∈ zTB := zmem (i := 125) (by decide +kernel) rfl
