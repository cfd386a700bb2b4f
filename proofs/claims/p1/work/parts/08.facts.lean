/-! 08: places of words in the tables -/
theorem uw_X0 : ((u_ws RX0 TX0 2).all (fun w => tbGood w && decide (w ∈ lw_tbl))) = true := by decide +kernel
theorem uw_X6 : ((u_ws RX6 TX6 4).all (fun w => tbGood w && decide (w ∈ lw_tbl))) = true := by decide +kernel
theorem uw_X1 : ((u_ws RX1 TX1 7).all (fun w => tbGood w && decide (w ∈ lw_tbl))) = true := by decide +kernel
theorem uw_X2 : ((u_ws RX2 TX2 2).all (fun w => tbGood w && decide (w ∈ lw_tbl))) = true := by decide +kernel
theorem uw_X3 : ((u_ws RX3 TX3 5).all (fun w => tbGood w && decide (w ∈ lw_tbl))) = true := by decide +kernel
theorem uw_X4 : ((u_ws RX4 TX4 4).all (fun w => tbGood w && decide (w ∈ lw_tbl))) = true := by decide +kernel
theorem uw_X5 : ((u_ws RX5 TX5 6).all (fun w => tbGood w && decide (w ∈ lw_tbl))) = true := by decide +kernel
theorem uw_X7 : ((u_ws RX7 TX7 16).all (fun w => tbGood w && decide (w ∈ lw_tbl))) = true := by decide +kernel
theorem lo_X0_3 : Cond.methodLink RX0 3 objectInit ∈ lw_tbl ∧ Cond.instanceMethod objectInit ∈ lw_tbl ∧ Cond.code objectInit ⟨#[0xb1]⟩ 1 none ∈ lw_tbl := ⟨List.mem_of_getElem? (i := 111) (by decide +kernel), List.mem_of_getElem? (i := 98) (by decide +kernel), List.mem_of_getElem? (i := 99) (by decide +kernel)⟩
theorem wd_arrI : Cond.arrayClass .int ∈ lw_tbl := List.mem_of_getElem? (i := 121) (by decide +kernel)
theorem fl_X0_9 : FL RX0 9 0 0 RX0 TX0 2 := ⟨rfl, uw_X0, by decide, rfl, Or.inl (List.mem_of_getElem? (i := 112) (by decide +kernel))⟩
theorem lo_X6_3 : Cond.methodLink RX6 3 objectInit ∈ lw_tbl ∧ Cond.instanceMethod objectInit ∈ lw_tbl ∧ Cond.code objectInit ⟨#[0xb1]⟩ 1 none ∈ lw_tbl := ⟨List.mem_of_getElem? (i := 143) (by decide +kernel), List.mem_of_getElem? (i := 98) (by decide +kernel), List.mem_of_getElem? (i := 99) (by decide +kernel)⟩
theorem fl_X6_9 : FL RX6 9 6 0 RX6 TX6 4 := ⟨rfl, uw_X6, by decide, rfl, Or.inl (List.mem_of_getElem? (i := 144) (by decide +kernel))⟩
theorem lo_X1_3 : Cond.methodLink RX1 3 objectInit ∈ lw_tbl ∧ Cond.instanceMethod objectInit ∈ lw_tbl ∧ Cond.code objectInit ⟨#[0xb1]⟩ 1 none ∈ lw_tbl := ⟨List.mem_of_getElem? (i := 166) (by decide +kernel), List.mem_of_getElem? (i := 98) (by decide +kernel), List.mem_of_getElem? (i := 99) (by decide +kernel)⟩
theorem fl_X1_9 : FL RX1 9 1 0 RX1 TX1 7 := ⟨rfl, uw_X1, by decide, rfl, Or.inl (List.mem_of_getElem? (i := 167) (by decide +kernel))⟩
theorem fl_X1_15 : FL RX1 15 1 1 RX1 TX1 7 := ⟨rfl, uw_X1, by decide, rfl, Or.inl (List.mem_of_getElem? (i := 169) (by decide +kernel))⟩
theorem fl_X1_18 : FL RX1 18 1 2 RX1 TX1 7 := ⟨rfl, uw_X1, by decide, rfl, Or.inl (List.mem_of_getElem? (i := 171) (by decide +kernel))⟩
theorem fl_X1_21 : FL RX1 21 1 3 RX1 TX1 7 := ⟨rfl, uw_X1, by decide, rfl, Or.inl (List.mem_of_getElem? (i := 173) (by decide +kernel))⟩
theorem lo_X2_3 : Cond.methodLink RX2 3 objectInit ∈ lw_tbl ∧ Cond.instanceMethod objectInit ∈ lw_tbl ∧ Cond.code objectInit ⟨#[0xb1]⟩ 1 none ∈ lw_tbl := ⟨List.mem_of_getElem? (i := 127) (by decide +kernel), List.mem_of_getElem? (i := 98) (by decide +kernel), List.mem_of_getElem? (i := 99) (by decide +kernel)⟩
theorem am_X2_9 : Cond.classLink RX2 9 "[[I" ∈ lw_tbl ∧ Cond.arrayOver (.array .int) ∈ lw_tbl ∧ Cond.arrayClass .int ∈ lw_tbl := ⟨List.mem_of_getElem? (i := 128) (by decide +kernel), List.mem_of_getElem? (i := 129) (by decide +kernel), List.mem_of_getElem? (i := 121) (by decide +kernel)⟩
theorem fl_X2_11 : FL RX2 11 2 0 RX2 TX2 2 := ⟨rfl, uw_X2, by decide, rfl, Or.inl (List.mem_of_getElem? (i := 130) (by decide +kernel))⟩
theorem fl_X2_16 : FL RX2 16 2 1 RX2 TX2 2 := ⟨rfl, uw_X2, by decide, rfl, Or.inl (List.mem_of_getElem? (i := 132) (by decide +kernel))⟩
theorem lo_X3_3 : Cond.methodLink RX3 3 objectInit ∈ lw_tbl ∧ Cond.instanceMethod objectInit ∈ lw_tbl ∧ Cond.code objectInit ⟨#[0xb1]⟩ 1 none ∈ lw_tbl := ⟨List.mem_of_getElem? (i := 199) (by decide +kernel), List.mem_of_getElem? (i := 98) (by decide +kernel), List.mem_of_getElem? (i := 99) (by decide +kernel)⟩
theorem fl_X3_9 : FL RX3 9 3 1 RX3 TX3 5 := ⟨rfl, uw_X3, by decide, rfl, Or.inl (List.mem_of_getElem? (i := 202) (by decide +kernel))⟩
theorem fl_X3_15 : FL RX3 15 3 0 RX3 TX3 5 := ⟨rfl, uw_X3, by decide, rfl, Or.inl (List.mem_of_getElem? (i := 200) (by decide +kernel))⟩
theorem fl_X3_19 : FL RX3 19 3 2 RX3 TX3 5 := ⟨rfl, uw_X3, by decide, rfl, Or.inl (List.mem_of_getElem? (i := 204) (by decide +kernel))⟩
theorem lo_X4_1 : Cond.methodLink RX4 1 objectInit ∈ lw_tbl ∧ Cond.instanceMethod objectInit ∈ lw_tbl ∧ Cond.code objectInit ⟨#[0xb1]⟩ 1 none ∈ lw_tbl := ⟨List.mem_of_getElem? (i := 728) (by decide +kernel), List.mem_of_getElem? (i := 98) (by decide +kernel), List.mem_of_getElem? (i := 99) (by decide +kernel)⟩
theorem fl_X4_7 : FL RX4 7 4 0 RX4 TX4 4 := ⟨rfl, uw_X4, by decide, rfl, Or.inl (List.mem_of_getElem? (i := 729) (by decide +kernel))⟩
theorem fl_X4_13 : FL RX4 13 4 1 RX4 TX4 4 := ⟨rfl, uw_X4, by decide, rfl, Or.inl (List.mem_of_getElem? (i := 731) (by decide +kernel))⟩
theorem fl_X4_16 : FL RX4 16 4 2 RX4 TX4 4 := ⟨rfl, uw_X4, by decide, rfl, Or.inl (List.mem_of_getElem? (i := 734) (by decide +kernel))⟩
theorem lo_X5_3 : Cond.methodLink RX5 3 objectInit ∈ lw_tbl ∧ Cond.instanceMethod objectInit ∈ lw_tbl ∧ Cond.code objectInit ⟨#[0xb1]⟩ 1 none ∈ lw_tbl := ⟨List.mem_of_getElem? (i := 799) (by decide +kernel), List.mem_of_getElem? (i := 98) (by decide +kernel), List.mem_of_getElem? (i := 99) (by decide +kernel)⟩
theorem fl_X5_9 : FL RX5 9 5 0 RX5 TX5 6 := ⟨rfl, uw_X5, by decide, rfl, Or.inl (List.mem_of_getElem? (i := 800) (by decide +kernel))⟩
theorem fl_X5_15 : FL RX5 15 5 1 RX5 TX5 6 := ⟨rfl, uw_X5, by decide, rfl, Or.inl (List.mem_of_getElem? (i := 802) (by decide +kernel))⟩
theorem fl_X5_18 : FL RX5 18 5 2 RX5 TX5 6 := ⟨rfl, uw_X5, by decide, rfl, Or.inl (List.mem_of_getElem? (i := 804) (by decide +kernel))⟩
theorem lo_X7_1 : Cond.methodLink RX7 1 objectInit ∈ lw_tbl ∧ Cond.instanceMethod objectInit ∈ lw_tbl ∧ Cond.code objectInit ⟨#[0xb1]⟩ 1 none ∈ lw_tbl := ⟨List.mem_of_getElem? (i := 97) (by decide +kernel), List.mem_of_getElem? (i := 98) (by decide +kernel), List.mem_of_getElem? (i := 99) (by decide +kernel)⟩
theorem ao_X7_9 : Cond.classLink RX7 9 RX3 ∈ lw_tbl ∧ Cond.arrayOver (.object RX3) ∈ lw_tbl := ⟨List.mem_of_getElem? (i := 100) (by decide +kernel), List.mem_of_getElem? (i := 101) (by decide +kernel)⟩
theorem fl_X7_11 : FL RX7 11 7 0 RX7 TX7 16 := ⟨rfl, uw_X7, by decide, rfl, Or.inl (List.mem_of_getElem? (i := 221) (by decide +kernel))⟩
theorem ao_X7_15 : Cond.classLink RX7 15 RX4 ∈ lw_tbl ∧ Cond.arrayOver (.object RX4) ∈ lw_tbl := ⟨List.mem_of_getElem? (i := 102) (by decide +kernel), List.mem_of_getElem? (i := 103) (by decide +kernel)⟩
theorem fl_X7_17 : FL RX7 17 7 1 RX7 TX7 16 := ⟨rfl, uw_X7, by decide, rfl, Or.inl (List.mem_of_getElem? (i := 222) (by decide +kernel))⟩
theorem ao_X7_21 : Cond.classLink RX7 21 RX5 ∈ lw_tbl ∧ Cond.arrayOver (.object RX5) ∈ lw_tbl := ⟨List.mem_of_getElem? (i := 104) (by decide +kernel), List.mem_of_getElem? (i := 105) (by decide +kernel)⟩
theorem fl_X7_23 : FL RX7 23 7 2 RX7 TX7 16 := ⟨rfl, uw_X7, by decide, rfl, Or.inl (List.mem_of_getElem? (i := 223) (by decide +kernel))⟩
theorem nw_X7_27 : kCl[0]? = some (RX0, TX0, 2) ∧ ((u_ws RX0 TX0 2).all (fun w => tbGood w && decide (w ∈ lw_tbl))) = true ∧ Cond.classLink RX7 27 RX0 ∈ lw_tbl ∧ Cond.instantiable RX0 2 ∈ lw_tbl ∧ Cond.initialized RX0 ∈ lw_tbl := ⟨rfl, uw_X0, List.mem_of_getElem? (i := 106) (by decide +kernel), List.mem_of_getElem? (i := 107) (by decide +kernel), List.mem_of_getElem? (i := 62) (by decide +kernel)⟩
theorem lk_X7_29 : LK RX7 29 yX0_init := Or.inr ⟨"Panyard", List.mem_of_getElem? (i := 108) (by decide +kernel)⟩
theorem mf_X0_init : MFi yX0_init cX0_init 1 0 := ⟨List.mem_of_getElem? (i := 109) (by decide +kernel), List.mem_of_getElem? (i := 62) (by decide +kernel), List.mem_of_getElem? (i := 110) (by decide +kernel), by decide +kernel, by decide +kernel, by decide +kernel, rfl⟩
theorem fl_X7_30 : FL RX7 30 7 3 RX7 TX7 16 := ⟨rfl, uw_X7, by decide, rfl, Or.inl (List.mem_of_getElem? (i := 224) (by decide +kernel))⟩
theorem nw_X7_34 : kCl[2]? = some (RX2, TX2, 2) ∧ ((u_ws RX2 TX2 2).all (fun w => tbGood w && decide (w ∈ lw_tbl))) = true ∧ Cond.classLink RX7 34 RX2 ∈ lw_tbl ∧ Cond.instantiable RX2 2 ∈ lw_tbl ∧ Cond.initialized RX2 ∈ lw_tbl := ⟨rfl, uw_X2, List.mem_of_getElem? (i := 122) (by decide +kernel), List.mem_of_getElem? (i := 123) (by decide +kernel), List.mem_of_getElem? (i := 63) (by decide +kernel)⟩
theorem lk_X7_36 : LK RX7 36 yX2_init := Or.inr ⟨"Panyard", List.mem_of_getElem? (i := 124) (by decide +kernel)⟩
theorem mf_X2_init : MFi yX2_init cX2_init 1 0 := ⟨List.mem_of_getElem? (i := 125) (by decide +kernel), List.mem_of_getElem? (i := 63) (by decide +kernel), List.mem_of_getElem? (i := 126) (by decide +kernel), by decide +kernel, by decide +kernel, by decide +kernel, rfl⟩
theorem fl_X7_37 : FL RX7 37 7 4 RX7 TX7 16 := ⟨rfl, uw_X7, by decide, rfl, Or.inl (List.mem_of_getElem? (i := 225) (by decide +kernel))⟩
theorem nw_X7_41 : kCl[6]? = some (RX6, TX6, 4) ∧ ((u_ws RX6 TX6 4).all (fun w => tbGood w && decide (w ∈ lw_tbl))) = true ∧ Cond.classLink RX7 41 RX6 ∈ lw_tbl ∧ Cond.instantiable RX6 4 ∈ lw_tbl ∧ Cond.initialized RX6 ∈ lw_tbl := ⟨rfl, uw_X6, List.mem_of_getElem? (i := 138) (by decide +kernel), List.mem_of_getElem? (i := 139) (by decide +kernel), List.mem_of_getElem? (i := 64) (by decide +kernel)⟩
theorem lk_X7_43 : LK RX7 43 yX6_init := Or.inr ⟨"Panyard", List.mem_of_getElem? (i := 140) (by decide +kernel)⟩
theorem mf_X6_init : MFi yX6_init cX6_init 1 0 := ⟨List.mem_of_getElem? (i := 141) (by decide +kernel), List.mem_of_getElem? (i := 64) (by decide +kernel), List.mem_of_getElem? (i := 142) (by decide +kernel), by decide +kernel, by decide +kernel, by decide +kernel, rfl⟩
theorem fl_X7_44 : FL RX7 44 7 5 RX7 TX7 16 := ⟨rfl, uw_X7, by decide, rfl, Or.inl (List.mem_of_getElem? (i := 226) (by decide +kernel))⟩
theorem nw_X7_48 : kCl[1]? = some (RX1, TX1, 7) ∧ ((u_ws RX1 TX1 7).all (fun w => tbGood w && decide (w ∈ lw_tbl))) = true ∧ Cond.classLink RX7 48 RX1 ∈ lw_tbl ∧ Cond.instantiable RX1 7 ∈ lw_tbl ∧ Cond.initialized RX1 ∈ lw_tbl := ⟨rfl, uw_X1, List.mem_of_getElem? (i := 161) (by decide +kernel), List.mem_of_getElem? (i := 162) (by decide +kernel), List.mem_of_getElem? (i := 65) (by decide +kernel)⟩
theorem lk_X7_50 : LK RX7 50 yX1_init := Or.inr ⟨"Panyard", List.mem_of_getElem? (i := 163) (by decide +kernel)⟩
theorem mf_X1_init : MFi yX1_init cX1_init 1 0 := ⟨List.mem_of_getElem? (i := 164) (by decide +kernel), List.mem_of_getElem? (i := 65) (by decide +kernel), List.mem_of_getElem? (i := 165) (by decide +kernel), by decide +kernel, by decide +kernel, by decide +kernel, rfl⟩
theorem fl_X7_51 : FL RX7 51 7 6 RX7 TX7 16 := ⟨rfl, uw_X7, by decide, rfl, Or.inl (List.mem_of_getElem? (i := 227) (by decide +kernel))⟩
theorem fl_X7_55 : FL RX7 55 7 10 RX7 TX7 16 := ⟨rfl, uw_X7, by decide, rfl, Or.inl (List.mem_of_getElem? (i := 231) (by decide +kernel))⟩
theorem nw_X7_9 : kCl[3]? = some (RX3, TX3, 5) ∧ ((u_ws RX3 TX3 5).all (fun w => tbGood w && decide (w ∈ lw_tbl))) = true ∧ Cond.classLink RX7 9 RX3 ∈ lw_tbl ∧ Cond.instantiable RX3 5 ∈ lw_tbl ∧ Cond.initialized RX3 ∈ lw_tbl := ⟨rfl, uw_X3, List.mem_of_getElem? (i := 100) (by decide +kernel), List.mem_of_getElem? (i := 195) (by decide +kernel), List.mem_of_getElem? (i := 66) (by decide +kernel)⟩
theorem lk_X7_59 : LK RX7 59 yX3_init := Or.inl (List.mem_of_getElem? (i := 196) (by decide +kernel))
theorem mf_X3_init : MFi yX3_init cX3_init 4 2 := ⟨List.mem_of_getElem? (i := 197) (by decide +kernel), List.mem_of_getElem? (i := 66) (by decide +kernel), List.mem_of_getElem? (i := 198) (by decide +kernel), by decide +kernel, by decide +kernel, by decide +kernel, rfl⟩
theorem fl_X7_62 : FL RX7 62 7 12 RX7 TX7 16 := ⟨rfl, uw_X7, by decide, rfl, Or.inl (List.mem_of_getElem? (i := 233) (by decide +kernel))⟩
theorem fl_X7_66 : FL RX7 66 7 13 RX7 TX7 16 := ⟨rfl, uw_X7, by decide, rfl, Or.inl (List.mem_of_getElem? (i := 234) (by decide +kernel))⟩
theorem fl_X7_69 : FL RX7 69 7 14 RX7 TX7 16 := ⟨rfl, uw_X7, by decide, rfl, Or.inl (List.mem_of_getElem? (i := 235) (by decide +kernel))⟩
theorem fl_X7_72 : FL RX7 72 7 15 RX7 TX7 16 := ⟨rfl, uw_X7, by decide, rfl, Or.inl (List.mem_of_getElem? (i := 236) (by decide +kernel))⟩
theorem lk_X7_96 : LK RX7 96 yX7_isWithin := Or.inl (List.mem_of_getElem? (i := 472) (by decide +kernel))
theorem mf_X7_isWithin : MFs yX7_isWithin cX7_isWithin 3 (some .boolean) 3 := ⟨List.mem_of_getElem? (i := 473) (by decide +kernel), List.mem_of_getElem? (i := 61) (by decide +kernel), List.mem_of_getElem? (i := 474) (by decide +kernel), by decide +kernel, by decide +kernel, by decide +kernel⟩
theorem lk_X7_76 : LK RX7 76 yX7_requireSection := Or.inl (List.mem_of_getElem? (i := 672) (by decide +kernel))
theorem mf_X7_requireSection : MFs yX7_requireSection cX7_requireSection 1 none 1 := ⟨List.mem_of_getElem? (i := 673) (by decide +kernel), List.mem_of_getElem? (i := 61) (by decide +kernel), List.mem_of_getElem? (i := 674) (by decide +kernel), by decide +kernel, by decide +kernel, by decide +kernel⟩
theorem fl_X7_80 : FL RX7 80 7 7 RX7 TX7 16 := ⟨rfl, uw_X7, by decide, rfl, Or.inl (List.mem_of_getElem? (i := 228) (by decide +kernel))⟩
theorem fl_X3_22 : FL RX3 22 3 3 RX3 TX3 5 := ⟨rfl, uw_X3, by decide, rfl, Or.inl (List.mem_of_getElem? (i := 206) (by decide +kernel))⟩
theorem lk_X7_315 : LK RX7 315 yX3_isCracked := Or.inl (List.mem_of_getElem? (i := 491) (by decide +kernel))
theorem mf_X3_isCracked : MFv yX3_isCracked cX3_isCracked 1 (some .boolean) 0 := ⟨List.mem_of_getElem? (i := 297) (by decide +kernel), List.mem_of_getElem? (i := 298) (by decide +kernel), List.mem_of_getElem? (i := 66) (by decide +kernel), List.mem_of_getElem? (i := 299) (by decide +kernel), by decide +kernel, by decide +kernel, by decide +kernel⟩
theorem lk_X3_53 : LK RX3 53 yX7_held := Or.inr ⟨"Panyard", List.mem_of_getElem? (i := 524) (by decide +kernel)⟩
theorem mf_X7_held : MFs yX7_held cX7_held 3 (some .int) 3 := ⟨List.mem_of_getElem? (i := 373) (by decide +kernel), List.mem_of_getElem? (i := 61) (by decide +kernel), List.mem_of_getElem? (i := 374) (by decide +kernel), by decide +kernel, by decide +kernel, by decide +kernel⟩
theorem lk_X3_57 : LK RX3 57 yX3_shift := Or.inl (List.mem_of_getElem? (i := 529) (by decide +kernel))
theorem mf_X3_shift : MFv yX3_shift cX3_shift 3 none 2 := ⟨List.mem_of_getElem? (i := 531) (by decide +kernel), List.mem_of_getElem? (i := 15) (by decide +kernel), List.mem_of_getElem? (i := 66) (by decide +kernel), List.mem_of_getElem? (i := 532) (by decide +kernel), by decide +kernel, by decide +kernel, by decide +kernel⟩
theorem lm_X3_34 : Cond.methodLink RX3 34 Lib.Math.abs.name ∈ lw_tbl := List.mem_of_getElem? (i := 320) (by decide +kernel)
theorem mf_Math_abs : MFs Lib.Math.abs.name Lib.Math.abs.code 1 (some .int) 1 := ⟨List.mem_of_getElem? (i := 321) (by decide +kernel), List.mem_of_getElem? (i := 78) (by decide +kernel), List.mem_of_getElem? (i := 322) (by decide +kernel), by decide +kernel, by decide +kernel, by decide +kernel⟩
theorem fl_X3_25 : FL RX3 25 3 4 RX3 TX3 5 := ⟨rfl, uw_X3, by decide, rfl, Or.inl (List.mem_of_getElem? (i := 208) (by decide +kernel))⟩
theorem lk_X7_90 : LK RX7 90 yX7_requirePan := Or.inl (List.mem_of_getElem? (i := 468) (by decide +kernel))
theorem mf_X7_requirePan : MFv yX7_requirePan cX7_requirePan 2 none 1 := ⟨List.mem_of_getElem? (i := 470) (by decide +kernel), List.mem_of_getElem? (i := 13) (by decide +kernel), List.mem_of_getElem? (i := 61) (by decide +kernel), List.mem_of_getElem? (i := 471) (by decide +kernel), by decide +kernel, by decide +kernel, by decide +kernel⟩
theorem lk_X7_93 : LK RX7 93 yX7_requireNote := Or.inl (List.mem_of_getElem? (i := 497) (by decide +kernel))
theorem mf_X7_requireNote : MFs yX7_requireNote cX7_requireNote 1 none 1 := ⟨List.mem_of_getElem? (i := 498) (by decide +kernel), List.mem_of_getElem? (i := 61) (by decide +kernel), List.mem_of_getElem? (i := 499) (by decide +kernel), by decide +kernel, by decide +kernel, by decide +kernel⟩
theorem lk_X7_105 : LK RX7 105 yX7_requireWhole := Or.inl (List.mem_of_getElem? (i := 686) (by decide +kernel))
theorem mf_X7_requireWhole : MFv yX7_requireWhole cX7_requireWhole 2 none 1 := ⟨List.mem_of_getElem? (i := 688) (by decide +kernel), List.mem_of_getElem? (i := 24) (by decide +kernel), List.mem_of_getElem? (i := 61) (by decide +kernel), List.mem_of_getElem? (i := 689) (by decide +kernel), by decide +kernel, by decide +kernel, by decide +kernel⟩
theorem lk_X7_108 : LK RX7 108 yX3_strike := Or.inl (List.mem_of_getElem? (i := 691) (by decide +kernel))
theorem mf_X3_strike : MFv yX3_strike cX3_strike 3 none 2 := ⟨List.mem_of_getElem? (i := 526) (by decide +kernel), List.mem_of_getElem? (i := 527) (by decide +kernel), List.mem_of_getElem? (i := 66) (by decide +kernel), List.mem_of_getElem? (i := 528) (by decide +kernel), by decide +kernel, by decide +kernel, by decide +kernel⟩
theorem fl_X7_111 : FL RX7 111 3 1 RX3 TX3 5 := ⟨rfl, uw_X3, by decide, rfl, Or.inr ⟨"Panyard", List.mem_of_getElem? (i := 203) (by decide +kernel)⟩⟩
theorem lk_X7_114 : LK RX7 114 yX3_heat := Or.inl (List.mem_of_getElem? (i := 699) (by decide +kernel))
theorem mf_X3_heat : MFv yX3_heat cX3_heat 2 none 0 := ⟨List.mem_of_getElem? (i := 700) (by decide +kernel), List.mem_of_getElem? (i := 701) (by decide +kernel), List.mem_of_getElem? (i := 66) (by decide +kernel), List.mem_of_getElem? (i := 702) (by decide +kernel), by decide +kernel, by decide +kernel, by decide +kernel⟩
theorem fl_X7_117 : FL RX7 117 3 3 RX3 TX3 5 := ⟨rfl, uw_X3, by decide, rfl, Or.inr ⟨"Panyard", List.mem_of_getElem? (i := 207) (by decide +kernel)⟩⟩
theorem lk_X3_40 : LK RX3 40 yX3_isCracked := Or.inl (List.mem_of_getElem? (i := 342) (by decide +kernel))
theorem lk_X3_44 : LK RX3 44 yX3_notesInTune := Or.inl (List.mem_of_getElem? (i := 343) (by decide +kernel))
theorem mf_X3_notesInTune : MFv yX3_notesInTune cX3_notesInTune 4 (some .int) 0 := ⟨List.mem_of_getElem? (i := 317) (by decide +kernel), List.mem_of_getElem? (i := 318) (by decide +kernel), List.mem_of_getElem? (i := 66) (by decide +kernel), List.mem_of_getElem? (i := 319) (by decide +kernel), by decide +kernel, by decide +kernel, by decide +kernel⟩
theorem lk_X3_67 : LK RX3 67 yX3_strike := Or.inl (List.mem_of_getElem? (i := 525) (by decide +kernel))
theorem lk_X3_61 : LK RX3 61 yX3_needsTuner := Or.inl (List.mem_of_getElem? (i := 516) (by decide +kernel))
theorem mf_X3_needsTuner : MFv yX3_needsTuner cX3_needsTuner 1 (some .boolean) 0 := ⟨List.mem_of_getElem? (i := 517) (by decide +kernel), List.mem_of_getElem? (i := 518) (by decide +kernel), List.mem_of_getElem? (i := 66) (by decide +kernel), List.mem_of_getElem? (i := 519) (by decide +kernel), by decide +kernel, by decide +kernel, by decide +kernel⟩
theorem lk_X3_64 : LK RX3 64 yX3_tuneOnce := Or.inl (List.mem_of_getElem? (i := 520) (by decide +kernel))
theorem mf_X3_tuneOnce : MFv yX3_tuneOnce cX3_tuneOnce 3 none 0 := ⟨List.mem_of_getElem? (i := 522) (by decide +kernel), List.mem_of_getElem? (i := 14) (by decide +kernel), List.mem_of_getElem? (i := 66) (by decide +kernel), List.mem_of_getElem? (i := 523) (by decide +kernel), by decide +kernel, by decide +kernel, by decide +kernel⟩
theorem lk_X7_122 : LK RX7 122 yX3_tuneUpTo := Or.inl (List.mem_of_getElem? (i := 512) (by decide +kernel))
theorem mf_X3_tuneUpTo : MFv yX3_tuneUpTo cX3_tuneUpTo 3 (some .int) 1 := ⟨List.mem_of_getElem? (i := 513) (by decide +kernel), List.mem_of_getElem? (i := 514) (by decide +kernel), List.mem_of_getElem? (i := 66) (by decide +kernel), List.mem_of_getElem? (i := 515) (by decide +kernel), by decide +kernel, by decide +kernel, by decide +kernel⟩
theorem fl_X7_126 : FL RX7 126 7 11 RX7 TX7 16 := ⟨rfl, uw_X7, by decide, rfl, Or.inl (List.mem_of_getElem? (i := 232) (by decide +kernel))⟩
theorem lk_X7_130 : LK RX7 130 yX7_requirePhraseWords := Or.inl (List.mem_of_getElem? (i := 718) (by decide +kernel))
theorem mf_X7_requirePhraseWords : MFs yX7_requirePhraseWords cX7_requirePhraseWords 2 none 2 := ⟨List.mem_of_getElem? (i := 719) (by decide +kernel), List.mem_of_getElem? (i := 61) (by decide +kernel), List.mem_of_getElem? (i := 720) (by decide +kernel), by decide +kernel, by decide +kernel, by decide +kernel⟩
theorem fl_X7_133 : FL RX7 133 7 8 RX7 TX7 16 := ⟨rfl, uw_X7, by decide, rfl, Or.inl (List.mem_of_getElem? (i := 229) (by decide +kernel))⟩
theorem nw_X7_15 : kCl[4]? = some (RX4, TX4, 4) ∧ ((u_ws RX4 TX4 4).all (fun w => tbGood w && decide (w ∈ lw_tbl))) = true ∧ Cond.classLink RX7 15 RX4 ∈ lw_tbl ∧ Cond.instantiable RX4 4 ∈ lw_tbl ∧ Cond.initialized RX4 ∈ lw_tbl := ⟨rfl, uw_X4, List.mem_of_getElem? (i := 102) (by decide +kernel), List.mem_of_getElem? (i := 724) (by decide +kernel), List.mem_of_getElem? (i := 84) (by decide +kernel)⟩
theorem lk_X7_138 : LK RX7 138 yX4_init := Or.inl (List.mem_of_getElem? (i := 725) (by decide +kernel))
theorem mf_X4_init : MFi yX4_init cX4_init 4 3 := ⟨List.mem_of_getElem? (i := 726) (by decide +kernel), List.mem_of_getElem? (i := 84) (by decide +kernel), List.mem_of_getElem? (i := 727) (by decide +kernel), by decide +kernel, by decide +kernel, by decide +kernel, rfl⟩
theorem fl_X4_19 : FL RX4 19 4 3 RX4 TX4 4 := ⟨rfl, uw_X4, by decide, rfl, Or.inl (List.mem_of_getElem? (i := 736) (by decide +kernel))⟩
theorem lk_X4_22 : LK RX4 22 yJ6_bitCount_0f7a4 := Or.inl (List.mem_of_getElem? (i := 333) (by decide +kernel))
theorem mf_J6_bitCount_0f7a4 : MFs yJ6_bitCount_0f7a4 cJ6_bitCount_0f7a4 1 (some .int) 1 := ⟨List.mem_of_getElem? (i := 324) (by decide +kernel), List.mem_of_getElem? (i := 87) (by decide +kernel), List.mem_of_getElem? (i := 325) (by decide +kernel), by decide +kernel, by decide +kernel, by decide +kernel⟩
theorem lk_X5_38 : LK RX5 38 yX4_noteCount := Or.inl (List.mem_of_getElem? (i := 594) (by decide +kernel))
theorem mf_X4_noteCount : MFv yX4_noteCount cX4_noteCount 1 (some .int) 0 := ⟨List.mem_of_getElem? (i := 330) (by decide +kernel), List.mem_of_getElem? (i := 331) (by decide +kernel), List.mem_of_getElem? (i := 84) (by decide +kernel), List.mem_of_getElem? (i := 332) (by decide +kernel), by decide +kernel, by decide +kernel, by decide +kernel⟩
theorem lm_X2_26 : Cond.methodLink RX2 26 Lib.Math.min.name ∈ lw_tbl := List.mem_of_getElem? (i := 599) (by decide +kernel)
theorem mf_Math_min : MFs Lib.Math.min.name Lib.Math.min.code 2 (some .int) 2 := ⟨List.mem_of_getElem? (i := 380) (by decide +kernel), List.mem_of_getElem? (i := 78) (by decide +kernel), List.mem_of_getElem? (i := 381) (by decide +kernel), by decide +kernel, by decide +kernel, by decide +kernel⟩
theorem lk_X7_141 : LK RX7 141 yX7_requirePhrase := Or.inl (List.mem_of_getElem? (i := 542) (by decide +kernel))
theorem mf_X7_requirePhrase : MFv yX7_requirePhrase cX7_requirePhrase 2 none 1 := ⟨List.mem_of_getElem? (i := 544) (by decide +kernel), List.mem_of_getElem? (i := 17) (by decide +kernel), List.mem_of_getElem? (i := 61) (by decide +kernel), List.mem_of_getElem? (i := 545) (by decide +kernel), by decide +kernel, by decide +kernel, by decide +kernel⟩
theorem lk_X7_144 : LK RX7 144 yX4_tellAnew := Or.inl (List.mem_of_getElem? (i := 754) (by decide +kernel))
theorem mf_X4_tellAnew : MFv yX4_tellAnew cX4_tellAnew 3 none 2 := ⟨List.mem_of_getElem? (i := 755) (by decide +kernel), List.mem_of_getElem? (i := 756) (by decide +kernel), List.mem_of_getElem? (i := 84) (by decide +kernel), List.mem_of_getElem? (i := 757) (by decide +kernel), by decide +kernel, by decide +kernel, by decide +kernel⟩
theorem fl_X7_147 : FL RX7 147 7 9 RX7 TX7 16 := ⟨rfl, uw_X7, by decide, rfl, Or.inl (List.mem_of_getElem? (i := 230) (by decide +kernel))⟩
theorem fl_X7_157 : FL RX7 157 4 3 RX4 TX4 4 := ⟨rfl, uw_X4, by decide, rfl, Or.inr ⟨"Panyard", List.mem_of_getElem? (i := 737) (by decide +kernel)⟩⟩
theorem lk_X7_150 : LK RX7 150 yX5_mostMemory := Or.inl (List.mem_of_getElem? (i := 590) (by decide +kernel))
theorem mf_X5_mostMemory : MFv yX5_mostMemory cX5_mostMemory 2 (some .int) 1 := ⟨List.mem_of_getElem? (i := 591) (by decide +kernel), List.mem_of_getElem? (i := 592) (by decide +kernel), List.mem_of_getElem? (i := 90) (by decide +kernel), List.mem_of_getElem? (i := 593) (by decide +kernel), by decide +kernel, by decide +kernel, by decide +kernel⟩
theorem lk_X7_154 : LK RX7 154 yX2_halve := Or.inl (List.mem_of_getElem? (i := 758) (by decide +kernel))
theorem mf_X2_halve : MFv yX2_halve cX2_halve 4 none 3 := ⟨List.mem_of_getElem? (i := 759) (by decide +kernel), List.mem_of_getElem? (i := 760) (by decide +kernel), List.mem_of_getElem? (i := 63) (by decide +kernel), List.mem_of_getElem? (i := 761) (by decide +kernel), by decide +kernel, by decide +kernel, by decide +kernel⟩
theorem fl_X0_21 : FL RX0 21 0 1 RX0 TX0 2 := ⟨rfl, uw_X0, by decide, rfl, Or.inl (List.mem_of_getElem? (i := 114) (by decide +kernel))⟩
theorem fl_X7_160 : FL RX7 160 0 1 RX0 TX0 2 := ⟨rfl, uw_X0, by decide, rfl, Or.inr ⟨"Panyard", List.mem_of_getElem? (i := 115) (by decide +kernel)⟩⟩
theorem lk_X7_165 : LK RX7 165 yX0_append := Or.inl (List.mem_of_getElem? (i := 770) (by decide +kernel))
theorem mf_X0_append : MFv yX0_append cX0_append 2 none 1 := ⟨List.mem_of_getElem? (i := 771) (by decide +kernel), List.mem_of_getElem? (i := 772) (by decide +kernel), List.mem_of_getElem? (i := 62) (by decide +kernel), List.mem_of_getElem? (i := 773) (by decide +kernel), by decide +kernel, by decide +kernel, by decide +kernel⟩
theorem lk_X7_168 : LK RX7 168 yX7_requirePlace := Or.inl (List.mem_of_getElem? (i := 608) (by decide +kernel))
theorem mf_X7_requirePlace : MFv yX7_requirePlace cX7_requirePlace 2 none 1 := ⟨List.mem_of_getElem? (i := 610) (by decide +kernel), List.mem_of_getElem? (i := 23) (by decide +kernel), List.mem_of_getElem? (i := 61) (by decide +kernel), List.mem_of_getElem? (i := 611) (by decide +kernel), by decide +kernel, by decide +kernel, by decide +kernel⟩
theorem fl_X7_171 : FL RX7 171 0 0 RX0 TX0 2 := ⟨rfl, uw_X0, by decide, rfl, Or.inr ⟨"Panyard", List.mem_of_getElem? (i := 113) (by decide +kernel)⟩⟩
theorem lk_X7_174 : LK RX7 174 yX0_closeUp := Or.inl (List.mem_of_getElem? (i := 781) (by decide +kernel))
theorem mf_X0_closeUp : MFv yX0_closeUp cX0_closeUp 3 none 1 := ⟨List.mem_of_getElem? (i := 782) (by decide +kernel), List.mem_of_getElem? (i := 783) (by decide +kernel), List.mem_of_getElem? (i := 62) (by decide +kernel), List.mem_of_getElem? (i := 784) (by decide +kernel), by decide +kernel, by decide +kernel, by decide +kernel⟩
theorem nw_X7_21 : kCl[5]? = some (RX5, TX5, 6) ∧ ((u_ws RX5 TX5 6).all (fun w => tbGood w && decide (w ∈ lw_tbl))) = true ∧ Cond.classLink RX7 21 RX5 ∈ lw_tbl ∧ Cond.instantiable RX5 6 ∈ lw_tbl ∧ Cond.initialized RX5 ∈ lw_tbl := ⟨rfl, uw_X5, List.mem_of_getElem? (i := 104) (by decide +kernel), List.mem_of_getElem? (i := 795) (by decide +kernel), List.mem_of_getElem? (i := 90) (by decide +kernel)⟩
theorem lk_X7_183 : LK RX7 183 yX5_init := Or.inl (List.mem_of_getElem? (i := 796) (by decide +kernel))
theorem mf_X5_init : MFi yX5_init cX5_init 4 3 := ⟨List.mem_of_getElem? (i := 797) (by decide +kernel), List.mem_of_getElem? (i := 90) (by decide +kernel), List.mem_of_getElem? (i := 798) (by decide +kernel), by decide +kernel, by decide +kernel, by decide +kernel, rfl⟩
theorem fl_X5_21 : FL RX5 21 5 3 RX5 TX5 6 := ⟨rfl, uw_X5, by decide, rfl, Or.inl (List.mem_of_getElem? (i := 806) (by decide +kernel))⟩
theorem fl_X5_25 : FL RX5 25 3 0 RX3 TX3 5 := ⟨rfl, uw_X3, by decide, rfl, Or.inr ⟨"Panyard", List.mem_of_getElem? (i := 201) (by decide +kernel)⟩⟩
theorem lk_X7_184 : LK RX7 184 yX7_requirePlayer := Or.inl (List.mem_of_getElem? (i := 555) (by decide +kernel))
theorem mf_X7_requirePlayer : MFv yX7_requirePlayer cX7_requirePlayer 2 none 1 := ⟨List.mem_of_getElem? (i := 557) (by decide +kernel), List.mem_of_getElem? (i := 19) (by decide +kernel), List.mem_of_getElem? (i := 61) (by decide +kernel), List.mem_of_getElem? (i := 558) (by decide +kernel), by decide +kernel, by decide +kernel, by decide +kernel⟩
theorem fl_X7_187 : FL RX7 187 3 2 RX3 TX3 5 := ⟨rfl, uw_X3, by decide, rfl, Or.inr ⟨"Panyard", List.mem_of_getElem? (i := 205) (by decide +kernel)⟩⟩
theorem fl_X7_190 : FL RX7 190 5 0 RX5 TX5 6 := ⟨rfl, uw_X5, by decide, rfl, Or.inr ⟨"Panyard", List.mem_of_getElem? (i := 801) (by decide +kernel)⟩⟩
theorem lk_X7_195 : LK RX7 195 yX5_panNumber := Or.inl (List.mem_of_getElem? (i := 560) (by decide +kernel))
theorem mf_X5_panNumber : MFv yX5_panNumber cX5_panNumber 1 (some .int) 0 := ⟨List.mem_of_getElem? (i := 561) (by decide +kernel), List.mem_of_getElem? (i := 562) (by decide +kernel), List.mem_of_getElem? (i := 90) (by decide +kernel), List.mem_of_getElem? (i := 563) (by decide +kernel), by decide +kernel, by decide +kernel, by decide +kernel⟩
theorem fl_X7_199 : FL RX7 199 5 3 RX5 TX5 6 := ⟨rfl, uw_X5, by decide, rfl, Or.inr ⟨"Panyard", List.mem_of_getElem? (i := 807) (by decide +kernel)⟩⟩
theorem fl_X7_202 : FL RX7 202 5 4 RX5 TX5 6 := ⟨rfl, uw_X5, by decide, rfl, Or.inr ⟨"Panyard", List.mem_of_getElem? (i := 809) (by decide +kernel)⟩⟩
theorem fl_X7_335 : FL RX7 335 5 1 RX5 TX5 6 := ⟨rfl, uw_X5, by decide, rfl, Or.inr ⟨"Panyard", List.mem_of_getElem? (i := 803) (by decide +kernel)⟩⟩
theorem fl_X7_326 : FL RX7 326 4 1 RX4 TX4 4 := ⟨rfl, uw_X4, by decide, rfl, Or.inr ⟨"Panyard", List.mem_of_getElem? (i := 733) (by decide +kernel)⟩⟩
theorem lk_X7_488 : LK RX7 488 yX2_learn := Or.inl (List.mem_of_getElem? (i := 595) (by decide +kernel))
theorem mf_X2_learn : MFv yX2_learn cX2_learn 5 none 4 := ⟨List.mem_of_getElem? (i := 596) (by decide +kernel), List.mem_of_getElem? (i := 597) (by decide +kernel), List.mem_of_getElem? (i := 63) (by decide +kernel), List.mem_of_getElem? (i := 598) (by decide +kernel), by decide +kernel, by decide +kernel, by decide +kernel⟩
theorem lk_X7_205 : LK RX7 205 yX7_requireLesson := Or.inl (List.mem_of_getElem? (i := 573) (by decide +kernel))
theorem mf_X7_requireLesson : MFs yX7_requireLesson cX7_requireLesson 1 none 1 := ⟨List.mem_of_getElem? (i := 574) (by decide +kernel), List.mem_of_getElem? (i := 61) (by decide +kernel), List.mem_of_getElem? (i := 575) (by decide +kernel), by decide +kernel, by decide +kernel, by decide +kernel⟩
theorem fl_X7_208 : FL RX7 208 4 0 RX4 TX4 4 := ⟨rfl, uw_X4, by decide, rfl, Or.inr ⟨"Panyard", List.mem_of_getElem? (i := 730) (by decide +kernel)⟩⟩
theorem fl_X7_213 : FL RX7 213 6 0 RX6 TX6 4 := ⟨rfl, uw_X6, by decide, rfl, Or.inr ⟨"Panyard", List.mem_of_getElem? (i := 145) (by decide +kernel)⟩⟩
theorem fl_X7_218 : FL RX7 218 5 5 RX5 TX5 6 := ⟨rfl, uw_X5, by decide, rfl, Or.inr ⟨"Panyard", List.mem_of_getElem? (i := 810) (by decide +kernel)⟩⟩
theorem lk_X7_221 : LK RX7 221 yX7_giveLesson := Or.inl (List.mem_of_getElem? (i := 586) (by decide +kernel))
theorem mf_X7_giveLesson : MFv yX7_giveLesson cX7_giveLesson 7 none 4 := ⟨List.mem_of_getElem? (i := 588) (by decide +kernel), List.mem_of_getElem? (i := 21) (by decide +kernel), List.mem_of_getElem? (i := 61) (by decide +kernel), List.mem_of_getElem? (i := 589) (by decide +kernel), by decide +kernel, by decide +kernel, by decide +kernel⟩
theorem fl_X7_225 : FL RX7 225 2 0 RX2 TX2 2 := ⟨rfl, uw_X2, by decide, rfl, Or.inr ⟨"Panyard", List.mem_of_getElem? (i := 131) (by decide +kernel)⟩⟩
theorem fl_X5_30 : FL RX5 30 5 4 RX5 TX5 6 := ⟨rfl, uw_X5, by decide, rfl, Or.inl (List.mem_of_getElem? (i := 808) (by decide +kernel))⟩
theorem lk_X5_34 : LK RX5 34 yX3_isCracked := Or.inl (List.mem_of_getElem? (i := 296) (by decide +kernel))
theorem fl_X7_329 : FL RX7 329 4 2 RX4 TX4 4 := ⟨rfl, uw_X4, by decide, rfl, Or.inr ⟨"Panyard", List.mem_of_getElem? (i := 735) (by decide +kernel)⟩⟩
theorem fl_X7_261 : FL RX7 261 6 1 RX6 TX6 4 := ⟨rfl, uw_X6, by decide, rfl, Or.inr ⟨"Panyard", List.mem_of_getElem? (i := 147) (by decide +kernel)⟩⟩
theorem lk_X7_492 : LK RX7 492 yX3_wear := Or.inl (List.mem_of_getElem? (i := 862) (by decide +kernel))
theorem mf_X3_wear : MFv yX3_wear cX3_wear 4 none 2 := ⟨List.mem_of_getElem? (i := 863) (by decide +kernel), List.mem_of_getElem? (i := 864) (by decide +kernel), List.mem_of_getElem? (i := 66) (by decide +kernel), List.mem_of_getElem? (i := 865) (by decide +kernel), by decide +kernel, by decide +kernel, by decide +kernel⟩
theorem lk_X7_236 : LK RX7 236 yX5_soundingPan := Or.inl (List.mem_of_getElem? (i := 292) (by decide +kernel))
theorem mf_X5_soundingPan : MFv yX5_soundingPan cX5_soundingPan 1 (some (.object "Panyard$Pan")) 0 := ⟨List.mem_of_getElem? (i := 293) (by decide +kernel), List.mem_of_getElem? (i := 294) (by decide +kernel), List.mem_of_getElem? (i := 90) (by decide +kernel), List.mem_of_getElem? (i := 295) (by decide +kernel), by decide +kernel, by decide +kernel, by decide +kernel⟩
theorem fl_X7_231 : FL RX7 231 6 2 RX6 TX6 4 := ⟨rfl, uw_X6, by decide, rfl, Or.inr ⟨"Panyard", List.mem_of_getElem? (i := 149) (by decide +kernel)⟩⟩
theorem lk_X7_244 : LK RX7 244 yX7_soundingCount := Or.inl (List.mem_of_getElem? (i := 288) (by decide +kernel))
theorem mf_X7_soundingCount : MFv yX7_soundingCount cX7_soundingCount 3 (some .int) 0 := ⟨List.mem_of_getElem? (i := 290) (by decide +kernel), List.mem_of_getElem? (i := 0) (by decide +kernel), List.mem_of_getElem? (i := 61) (by decide +kernel), List.mem_of_getElem? (i := 291) (by decide +kernel), by decide +kernel, by decide +kernel, by decide +kernel⟩
theorem lk_X7_240 : LK RX7 240 yX7_rehearsePlaces := Or.inl (List.mem_of_getElem? (i := 858) (by decide +kernel))
theorem mf_X7_rehearsePlaces : MFv yX7_rehearsePlaces cX7_rehearsePlaces 8 none 3 := ⟨List.mem_of_getElem? (i := 860) (by decide +kernel), List.mem_of_getElem? (i := 25) (by decide +kernel), List.mem_of_getElem? (i := 61) (by decide +kernel), List.mem_of_getElem? (i := 861) (by decide +kernel), by decide +kernel, by decide +kernel, by decide +kernel⟩
theorem fl_X2_32 : FL RX2 32 4 1 RX4 TX4 4 := ⟨rfl, uw_X4, by decide, rfl, Or.inr ⟨"Panyard", List.mem_of_getElem? (i := 732) (by decide +kernel)⟩⟩
theorem lm_X2_38 : Cond.methodLink RX2 38 Lib.Math.max.name ∈ lw_tbl := List.mem_of_getElem? (i := 633) (by decide +kernel)
theorem mf_Math_max : MFs Lib.Math.max.name Lib.Math.max.code 2 (some .int) 2 := ⟨List.mem_of_getElem? (i := 358) (by decide +kernel), List.mem_of_getElem? (i := 78) (by decide +kernel), List.mem_of_getElem? (i := 359) (by decide +kernel), by decide +kernel, by decide +kernel, by decide +kernel⟩
theorem lk_X7_495 : LK RX7 495 yX3_warm := Or.inl (List.mem_of_getElem? (i := 879) (by decide +kernel))
theorem mf_X3_warm : MFv yX3_warm cX3_warm 2 none 0 := ⟨List.mem_of_getElem? (i := 880) (by decide +kernel), List.mem_of_getElem? (i := 881) (by decide +kernel), List.mem_of_getElem? (i := 66) (by decide +kernel), List.mem_of_getElem? (i := 882) (by decide +kernel), by decide +kernel, by decide +kernel, by decide +kernel⟩
theorem fl_X6_15 : FL RX6 15 6 2 RX6 TX6 4 := ⟨rfl, uw_X6, by decide, rfl, Or.inl (List.mem_of_getElem? (i := 148) (by decide +kernel))⟩
theorem fl_X6_19 : FL RX6 19 6 3 RX6 TX6 4 := ⟨rfl, uw_X6, by decide, rfl, Or.inl (List.mem_of_getElem? (i := 150) (by decide +kernel))⟩
theorem fl_X6_23 : FL RX6 23 6 1 RX6 TX6 4 := ⟨rfl, uw_X6, by decide, rfl, Or.inl (List.mem_of_getElem? (i := 146) (by decide +kernel))⟩
theorem lk_X7_251 : LK RX7 251 yX2_sleep := Or.inl (List.mem_of_getElem? (i := 629) (by decide +kernel))
theorem mf_X2_sleep : MFv yX2_sleep cX2_sleep 5 none 2 := ⟨List.mem_of_getElem? (i := 630) (by decide +kernel), List.mem_of_getElem? (i := 631) (by decide +kernel), List.mem_of_getElem? (i := 63) (by decide +kernel), List.mem_of_getElem? (i := 632) (by decide +kernel), by decide +kernel, by decide +kernel, by decide +kernel⟩
theorem lk_X7_255 : LK RX7 255 yX7_weather := Or.inl (List.mem_of_getElem? (i := 875) (by decide +kernel))
theorem mf_X7_weather : MFv yX7_weather cX7_weather 4 none 2 := ⟨List.mem_of_getElem? (i := 877) (by decide +kernel), List.mem_of_getElem? (i := 26) (by decide +kernel), List.mem_of_getElem? (i := 61) (by decide +kernel), List.mem_of_getElem? (i := 878) (by decide +kernel), by decide +kernel, by decide +kernel, by decide +kernel⟩
theorem lk_X7_258 : LK RX7 258 yX6_turn := Or.inl (List.mem_of_getElem? (i := 883) (by decide +kernel))
theorem mf_X6_turn : MFv yX6_turn cX6_turn 2 none 0 := ⟨List.mem_of_getElem? (i := 884) (by decide +kernel), List.mem_of_getElem? (i := 885) (by decide +kernel), List.mem_of_getElem? (i := 64) (by decide +kernel), List.mem_of_getElem? (i := 886) (by decide +kernel), by decide +kernel, by decide +kernel, by decide +kernel⟩
theorem fl_X7_268 : FL RX7 268 1 4 RX1 TX1 7 := ⟨rfl, uw_X1, by decide, rfl, Or.inr ⟨"Panyard", List.mem_of_getElem? (i := 176) (by decide +kernel)⟩⟩
theorem fl_X7_273 : FL RX7 273 1 0 RX1 TX1 7 := ⟨rfl, uw_X1, by decide, rfl, Or.inr ⟨"Panyard", List.mem_of_getElem? (i := 168) (by decide +kernel)⟩⟩
theorem fl_X7_283 : FL RX7 283 1 1 RX1 TX1 7 := ⟨rfl, uw_X1, by decide, rfl, Or.inr ⟨"Panyard", List.mem_of_getElem? (i := 170) (by decide +kernel)⟩⟩
theorem fl_X1_24 : FL RX1 24 1 6 RX1 TX1 7 := ⟨rfl, uw_X1, by decide, rfl, Or.inl (List.mem_of_getElem? (i := 179) (by decide +kernel))⟩
theorem fl_X1_28 : FL RX1 28 1 5 RX1 TX1 7 := ⟨rfl, uw_X1, by decide, rfl, Or.inl (List.mem_of_getElem? (i := 177) (by decide +kernel))⟩
theorem lk_X7_502 : LK RX7 502 yX3_notesInTune := Or.inl (List.mem_of_getElem? (i := 316) (by decide +kernel))
theorem lk_X7_505 : LK RX7 505 yJ6_bitCount_0f7a4 := Or.inl (List.mem_of_getElem? (i := 323) (by decide +kernel))
theorem lk_X7_510 : LK RX7 510 yX4_noteCount := Or.inl (List.mem_of_getElem? (i := 329) (by decide +kernel))
theorem lk_X7_498 : LK RX7 498 yX7_levelOf := Or.inl (List.mem_of_getElem? (i := 312) (by decide +kernel))
theorem mf_X7_levelOf : MFv yX7_levelOf cX7_levelOf 9 (some .int) 2 := ⟨List.mem_of_getElem? (i := 314) (by decide +kernel), List.mem_of_getElem? (i := 3) (by decide +kernel), List.mem_of_getElem? (i := 61) (by decide +kernel), List.mem_of_getElem? (i := 315) (by decide +kernel), by decide +kernel, by decide +kernel, by decide +kernel⟩
theorem lk_X3_48 : LK RX3 48 yJ6_bitCount_0f7a4 := Or.inl (List.mem_of_getElem? (i := 344) (by decide +kernel))
theorem lk_X7_318 : LK RX7 318 yX3_grade := Or.inl (List.mem_of_getElem? (i := 338) (by decide +kernel))
theorem mf_X3_grade : MFv yX3_grade cX3_grade 1 (some .int) 0 := ⟨List.mem_of_getElem? (i := 339) (by decide +kernel), List.mem_of_getElem? (i := 340) (by decide +kernel), List.mem_of_getElem? (i := 66) (by decide +kernel), List.mem_of_getElem? (i := 341) (by decide +kernel), by decide +kernel, by decide +kernel, by decide +kernel⟩
theorem lm_X7_397 : Cond.methodLink RX7 397 Lib.Math.max.name ∈ lw_tbl := List.mem_of_getElem? (i := 357) (by decide +kernel)
theorem lk_X7_349 : LK RX7 349 yX7_soundAt := Or.inl (List.mem_of_getElem? (i := 353) (by decide +kernel))
theorem mf_X7_soundAt : MFv yX7_soundAt cX7_soundAt 4 (some .int) 2 := ⟨List.mem_of_getElem? (i := 355) (by decide +kernel), List.mem_of_getElem? (i := 7) (by decide +kernel), List.mem_of_getElem? (i := 61) (by decide +kernel), List.mem_of_getElem? (i := 356) (by decide +kernel), by decide +kernel, by decide +kernel, by decide +kernel⟩
theorem lk_X7_516 : LK RX7 516 yX0_repeats := Or.inl (List.mem_of_getElem? (i := 368) (by decide +kernel))
theorem mf_X0_repeats : MFv yX0_repeats cX0_repeats 3 (some .int) 0 := ⟨List.mem_of_getElem? (i := 369) (by decide +kernel), List.mem_of_getElem? (i := 370) (by decide +kernel), List.mem_of_getElem? (i := 62) (by decide +kernel), List.mem_of_getElem? (i := 371) (by decide +kernel), by decide +kernel, by decide +kernel, by decide +kernel⟩
theorem lk_X7_519 : LK RX7 519 yX7_held := Or.inl (List.mem_of_getElem? (i := 372) (by decide +kernel))
theorem lk_X7_332 : LK RX7 332 yX0_placesOf := Or.inl (List.mem_of_getElem? (i := 364) (by decide +kernel))
theorem mf_X0_placesOf : MFv yX0_placesOf cX0_placesOf 4 (some .int) 1 := ⟨List.mem_of_getElem? (i := 365) (by decide +kernel), List.mem_of_getElem? (i := 366) (by decide +kernel), List.mem_of_getElem? (i := 62) (by decide +kernel), List.mem_of_getElem? (i := 367) (by decide +kernel), by decide +kernel, by decide +kernel, by decide +kernel⟩
theorem lm_X7_513 : Cond.methodLink RX7 513 Lib.Math.min.name ∈ lw_tbl := List.mem_of_getElem? (i := 379) (by decide +kernel)
theorem lk_X7_355 : LK RX7 355 yX7_meanSound := Or.inl (List.mem_of_getElem? (i := 349) (by decide +kernel))
theorem mf_X7_meanSound : MFv yX7_meanSound cX7_meanSound 4 (some .int) 1 := ⟨List.mem_of_getElem? (i := 351) (by decide +kernel), List.mem_of_getElem? (i := 6) (by decide +kernel), List.mem_of_getElem? (i := 61) (by decide +kernel), List.mem_of_getElem? (i := 352) (by decide +kernel), by decide +kernel, by decide +kernel, by decide +kernel⟩
theorem lk_X7_362 : LK RX7 362 yX7_variety := Or.inl (List.mem_of_getElem? (i := 360) (by decide +kernel))
theorem mf_X7_variety : MFv yX7_variety cX7_variety 4 (some .int) 1 := ⟨List.mem_of_getElem? (i := 362) (by decide +kernel), List.mem_of_getElem? (i := 8) (by decide +kernel), List.mem_of_getElem? (i := 61) (by decide +kernel), List.mem_of_getElem? (i := 363) (by decide +kernel), by decide +kernel, by decide +kernel, by decide +kernel⟩
theorem lk_X7_365 : LK RX7 365 yX7_leastSound := Or.inl (List.mem_of_getElem? (i := 375) (by decide +kernel))
theorem mf_X7_leastSound : MFv yX7_leastSound cX7_leastSound 4 (some .int) 1 := ⟨List.mem_of_getElem? (i := 377) (by decide +kernel), List.mem_of_getElem? (i := 9) (by decide +kernel), List.mem_of_getElem? (i := 61) (by decide +kernel), List.mem_of_getElem? (i := 378) (by decide +kernel), by decide +kernel, by decide +kernel, by decide +kernel⟩
theorem lk_X7_345 : LK RX7 345 yX7_weigh := Or.inl (List.mem_of_getElem? (i := 308) (by decide +kernel))
theorem mf_X7_weigh : MFv yX7_weigh cX7_weigh 3 none 1 := ⟨List.mem_of_getElem? (i := 310) (by decide +kernel), List.mem_of_getElem? (i := 2) (by decide +kernel), List.mem_of_getElem? (i := 61) (by decide +kernel), List.mem_of_getElem? (i := 311) (by decide +kernel), by decide +kernel, by decide +kernel, by decide +kernel⟩
theorem lk_X7_359 : LK RX7 359 yX7_tone := Or.inl (List.mem_of_getElem? (i := 334) (by decide +kernel))
theorem mf_X7_tone : MFv yX7_tone cX7_tone 5 (some .int) 0 := ⟨List.mem_of_getElem? (i := 336) (by decide +kernel), List.mem_of_getElem? (i := 4) (by decide +kernel), List.mem_of_getElem? (i := 61) (by decide +kernel), List.mem_of_getElem? (i := 337) (by decide +kernel), by decide +kernel, by decide +kernel, by decide +kernel⟩
theorem lk_X7_386 : LK RX7 386 yX7_heard := Or.inl (List.mem_of_getElem? (i := 345) (by decide +kernel))
theorem mf_X7_heard : MFv yX7_heard cX7_heard 2 (some .int) 1 := ⟨List.mem_of_getElem? (i := 347) (by decide +kernel), List.mem_of_getElem? (i := 5) (by decide +kernel), List.mem_of_getElem? (i := 61) (by decide +kernel), List.mem_of_getElem? (i := 348) (by decide +kernel), by decide +kernel, by decide +kernel, by decide +kernel⟩
theorem lm_X1_32 : Cond.methodLink RX1 32 Lib.Math.min.name ∈ lw_tbl := List.mem_of_getElem? (i := 386) (by decide +kernel)
theorem lm_X1_38 : Cond.methodLink RX1 38 Lib.Math.max.name ∈ lw_tbl := List.mem_of_getElem? (i := 387) (by decide +kernel)
theorem fl_X1_47 : FL RX1 47 1 4 RX1 TX1 7 := ⟨rfl, uw_X1, by decide, rfl, Or.inl (List.mem_of_getElem? (i := 175) (by decide +kernel))⟩
theorem lk_X1_41 : LK RX1 41 yX1_rankOf := Or.inl (List.mem_of_getElem? (i := 927) (by decide +kernel))
theorem mf_X1_rankOf : MFv yX1_rankOf cX1_rankOf 5 (some .int) 2 := ⟨List.mem_of_getElem? (i := 929) (by decide +kernel), List.mem_of_getElem? (i := 27) (by decide +kernel), List.mem_of_getElem? (i := 65) (by decide +kernel), List.mem_of_getElem? (i := 930) (by decide +kernel), by decide +kernel, by decide +kernel, by decide +kernel⟩
theorem lk_X1_53 : LK RX1 53 yX7_isWithin := Or.inr ⟨"Panyard", List.mem_of_getElem? (i := 938) (by decide +kernel)⟩
theorem lk_X7_286 : LK RX7 286 yX1_isOver := Or.inl (List.mem_of_getElem? (i := 300) (by decide +kernel))
theorem mf_X1_isOver : MFv yX1_isOver cX1_isOver 1 (some .boolean) 0 := ⟨List.mem_of_getElem? (i := 301) (by decide +kernel), List.mem_of_getElem? (i := 302) (by decide +kernel), List.mem_of_getElem? (i := 65) (by decide +kernel), List.mem_of_getElem? (i := 303) (by decide +kernel), by decide +kernel, by decide +kernel, by decide +kernel⟩
theorem fl_X7_292 : FL RX7 292 6 3 RX6 TX6 4 := ⟨rfl, uw_X6, by decide, rfl, Or.inr ⟨"Panyard", List.mem_of_getElem? (i := 151) (by decide +kernel)⟩⟩
theorem fl_X7_299 : FL RX7 299 1 5 RX1 TX1 7 := ⟨rfl, uw_X1, by decide, rfl, Or.inr ⟨"Panyard", List.mem_of_getElem? (i := 178) (by decide +kernel)⟩⟩
theorem lk_X7_302 : LK RX7 302 yX7_totalNow := Or.inl (List.mem_of_getElem? (i := 304) (by decide +kernel))
theorem mf_X7_totalNow : MFv yX7_totalNow cX7_totalNow 1 (some .int) 0 := ⟨List.mem_of_getElem? (i := 306) (by decide +kernel), List.mem_of_getElem? (i := 1) (by decide +kernel), List.mem_of_getElem? (i := 61) (by decide +kernel), List.mem_of_getElem? (i := 307) (by decide +kernel), by decide +kernel, by decide +kernel, by decide +kernel⟩
theorem lk_X7_305 : LK RX7 305 yX1_scoreOf := Or.inl (List.mem_of_getElem? (i := 382) (by decide +kernel))
theorem mf_X1_scoreOf : MFv yX1_scoreOf cX1_scoreOf 4 (some .int) 1 := ⟨List.mem_of_getElem? (i := 383) (by decide +kernel), List.mem_of_getElem? (i := 384) (by decide +kernel), List.mem_of_getElem? (i := 65) (by decide +kernel), List.mem_of_getElem? (i := 385) (by decide +kernel), by decide +kernel, by decide +kernel, by decide +kernel⟩
theorem lk_X7_308 : LK RX7 308 yX1_enter := Or.inl (List.mem_of_getElem? (i := 923) (by decide +kernel))
theorem mf_X1_enter : MFv yX1_enter cX1_enter 4 (some .int) 1 := ⟨List.mem_of_getElem? (i := 924) (by decide +kernel), List.mem_of_getElem? (i := 925) (by decide +kernel), List.mem_of_getElem? (i := 65) (by decide +kernel), List.mem_of_getElem? (i := 926) (by decide +kernel), by decide +kernel, by decide +kernel, by decide +kernel⟩
theorem lk_X7_311 : LK RX7 311 yX1_prizeOf := Or.inl (List.mem_of_getElem? (i := 933) (by decide +kernel))
theorem mf_X1_prizeOf : MFs yX1_prizeOf cX1_prizeOf 2 (some .int) 2 := ⟨List.mem_of_getElem? (i := 934) (by decide +kernel), List.mem_of_getElem? (i := 65) (by decide +kernel), List.mem_of_getElem? (i := 935) (by decide +kernel), by decide +kernel, by decide +kernel, by decide +kernel⟩
theorem fl_X7_321 : FL RX7 321 3 4 RX3 TX3 5 := ⟨rfl, uw_X3, by decide, rfl, Or.inr ⟨"Panyard", List.mem_of_getElem? (i := 209) (by decide +kernel)⟩⟩
theorem fl_X7_338 : FL RX7 338 5 2 RX5 TX5 6 := ⟨rfl, uw_X5, by decide, rfl, Or.inr ⟨"Panyard", List.mem_of_getElem? (i := 805) (by decide +kernel)⟩⟩
theorem fl_X7_373 : FL RX7 373 1 3 RX1 TX1 7 := ⟨rfl, uw_X1, by decide, rfl, Or.inr ⟨"Panyard", List.mem_of_getElem? (i := 174) (by decide +kernel)⟩⟩
theorem fl_X7_370 : FL RX7 370 1 2 RX1 TX1 7 := ⟨rfl, uw_X1, by decide, rfl, Or.inr ⟨"Panyard", List.mem_of_getElem? (i := 172) (by decide +kernel)⟩⟩
theorem lk_X7_376 : LK RX7 376 yX7_blowsEver := Or.inl (List.mem_of_getElem? (i := 388) (by decide +kernel))
theorem mf_X7_blowsEver : MFv yX7_blowsEver cX7_blowsEver 3 (some .int) 0 := ⟨List.mem_of_getElem? (i := 390) (by decide +kernel), List.mem_of_getElem? (i := 10) (by decide +kernel), List.mem_of_getElem? (i := 61) (by decide +kernel), List.mem_of_getElem? (i := 391) (by decide +kernel), by decide +kernel, by decide +kernel, by decide +kernel⟩
theorem lk_X2_20 : Cond.methodLink RX2 20 arraycopyName ∈ lw_tbl := List.mem_of_getElem? (i := 581) (by decide +kernel)
theorem mf_arraycopy : Cond.native arraycopyName ∈ lw_tbl ∧ Cond.static arraycopyName ∈ lw_tbl ∧ Cond.initialized "java/lang/System" ∈ lw_tbl := ⟨List.mem_of_getElem? (i := 511) (by decide +kernel), List.mem_of_getElem? (i := 510) (by decide +kernel), List.mem_of_getElem? (i := 80) (by decide +kernel)⟩
theorem lk_X7_383 : LK RX7 383 yX2_copyFrom := Or.inl (List.mem_of_getElem? (i := 577) (by decide +kernel))
theorem mf_X2_copyFrom : MFv yX2_copyFrom cX2_copyFrom 3 none 1 := ⟨List.mem_of_getElem? (i := 578) (by decide +kernel), List.mem_of_getElem? (i := 579) (by decide +kernel), List.mem_of_getElem? (i := 63) (by decide +kernel), List.mem_of_getElem? (i := 580) (by decide +kernel), by decide +kernel, by decide +kernel, by decide +kernel⟩
theorem lk_X0_15 : Cond.methodLink RX0 15 arraycopyName ∈ lw_tbl := List.mem_of_getElem? (i := 658) (by decide +kernel)
theorem lk_X7_391 : LK RX7 391 yX0_copyFrom := Or.inl (List.mem_of_getElem? (i := 654) (by decide +kernel))
theorem mf_X0_copyFrom : MFv yX0_copyFrom cX0_copyFrom 2 none 1 := ⟨List.mem_of_getElem? (i := 655) (by decide +kernel), List.mem_of_getElem? (i := 656) (by decide +kernel), List.mem_of_getElem? (i := 62) (by decide +kernel), List.mem_of_getElem? (i := 657) (by decide +kernel), by decide +kernel, by decide +kernel, by decide +kernel⟩
theorem lk_X7_394 : LK RX7 394 yX0_shuffle := Or.inl (List.mem_of_getElem? (i := 659) (by decide +kernel))
theorem mf_X0_shuffle : MFv yX0_shuffle cX0_shuffle 7 none 1 := ⟨List.mem_of_getElem? (i := 660) (by decide +kernel), List.mem_of_getElem? (i := 661) (by decide +kernel), List.mem_of_getElem? (i := 62) (by decide +kernel), List.mem_of_getElem? (i := 662) (by decide +kernel), by decide +kernel, by decide +kernel, by decide +kernel⟩
theorem lk_X7_402 : LK RX7 402 yX7_heardIfTaught := Or.inl (List.mem_of_getElem? (i := 582) (by decide +kernel))
theorem mf_X7_heardIfTaught : MFv yX7_heardIfTaught cX7_heardIfTaught 6 (some .int) 3 := ⟨List.mem_of_getElem? (i := 584) (by decide +kernel), List.mem_of_getElem? (i := 20) (by decide +kernel), List.mem_of_getElem? (i := 61) (by decide +kernel), List.mem_of_getElem? (i := 585) (by decide +kernel), by decide +kernel, by decide +kernel, by decide +kernel⟩
theorem lk_X3_28 : Cond.methodLink RX3 28 arraycopyName ∈ lw_tbl := List.mem_of_getElem? (i := 509) (by decide +kernel)
theorem lk_X7_406 : LK RX7 406 yX3_copyFrom := Or.inl (List.mem_of_getElem? (i := 505) (by decide +kernel))
theorem mf_X3_copyFrom : MFv yX3_copyFrom cX3_copyFrom 2 none 1 := ⟨List.mem_of_getElem? (i := 506) (by decide +kernel), List.mem_of_getElem? (i := 507) (by decide +kernel), List.mem_of_getElem? (i := 66) (by decide +kernel), List.mem_of_getElem? (i := 508) (by decide +kernel), by decide +kernel, by decide +kernel, by decide +kernel⟩
theorem lk_X7_409 : LK RX7 409 yX3_needsTuner := Or.inl (List.mem_of_getElem? (i := 533) (by decide +kernel))
theorem lk_X7_447 : LK RX7 447 yX7_blowsFor := Or.inl (List.mem_of_getElem? (i := 501) (by decide +kernel))
theorem mf_X7_blowsFor : MFv yX7_blowsFor cX7_blowsFor 3 (some .int) 1 := ⟨List.mem_of_getElem? (i := 502) (by decide +kernel), List.mem_of_getElem? (i := 503) (by decide +kernel), List.mem_of_getElem? (i := 61) (by decide +kernel), List.mem_of_getElem? (i := 504) (by decide +kernel), by decide +kernel, by decide +kernel, by decide +kernel⟩
theorem lk_X7_444 : LK RX7 444 yX7_off := Or.inl (List.mem_of_getElem? (i := 493) (by decide +kernel))
theorem mf_X7_off : MFv yX7_off cX7_off 3 (some .int) 2 := ⟨List.mem_of_getElem? (i := 494) (by decide +kernel), List.mem_of_getElem? (i := 495) (by decide +kernel), List.mem_of_getElem? (i := 61) (by decide +kernel), List.mem_of_getElem? (i := 496) (by decide +kernel), by decide +kernel, by decide +kernel, by decide +kernel⟩
theorem lk_X7_441 : LK RX7 441 yX7_ofPan := Or.inl (List.mem_of_getElem? (i := 464) (by decide +kernel))
theorem mf_X7_ofPan : MFv yX7_ofPan cX7_ofPan 4 (some .int) 2 := ⟨List.mem_of_getElem? (i := 465) (by decide +kernel), List.mem_of_getElem? (i := 466) (by decide +kernel), List.mem_of_getElem? (i := 61) (by decide +kernel), List.mem_of_getElem? (i := 467) (by decide +kernel), by decide +kernel, by decide +kernel, by decide +kernel⟩
theorem lk_X7_450 : LK RX7 450 yX7_ofPhrase := Or.inl (List.mem_of_getElem? (i := 538) (by decide +kernel))
theorem mf_X7_ofPhrase : MFv yX7_ofPhrase cX7_ofPhrase 4 (some .int) 2 := ⟨List.mem_of_getElem? (i := 539) (by decide +kernel), List.mem_of_getElem? (i := 540) (by decide +kernel), List.mem_of_getElem? (i := 61) (by decide +kernel), List.mem_of_getElem? (i := 541) (by decide +kernel), by decide +kernel, by decide +kernel, by decide +kernel⟩
theorem lk_X7_459 : LK RX7 459 yX7_bestTeach := Or.inl (List.mem_of_getElem? (i := 569) (by decide +kernel))
theorem mf_X7_bestTeach : MFv yX7_bestTeach cX7_bestTeach 7 (some .int) 2 := ⟨List.mem_of_getElem? (i := 570) (by decide +kernel), List.mem_of_getElem? (i := 571) (by decide +kernel), List.mem_of_getElem? (i := 61) (by decide +kernel), List.mem_of_getElem? (i := 572) (by decide +kernel), by decide +kernel, by decide +kernel, by decide +kernel⟩
theorem lk_X7_456 : LK RX7 456 yX7_memory := Or.inl (List.mem_of_getElem? (i := 565) (by decide +kernel))
theorem mf_X7_memory : MFv yX7_memory cX7_memory 3 (some .int) 2 := ⟨List.mem_of_getElem? (i := 566) (by decide +kernel), List.mem_of_getElem? (i := 567) (by decide +kernel), List.mem_of_getElem? (i := 61) (by decide +kernel), List.mem_of_getElem? (i := 568) (by decide +kernel), by decide +kernel, by decide +kernel, by decide +kernel⟩
theorem lk_X7_453 : LK RX7 453 yX7_ofPlayer := Or.inl (List.mem_of_getElem? (i := 551) (by decide +kernel))
theorem mf_X7_ofPlayer : MFv yX7_ofPlayer cX7_ofPlayer 4 (some .int) 2 := ⟨List.mem_of_getElem? (i := 552) (by decide +kernel), List.mem_of_getElem? (i := 553) (by decide +kernel), List.mem_of_getElem? (i := 61) (by decide +kernel), List.mem_of_getElem? (i := 554) (by decide +kernel), by decide +kernel, by decide +kernel, by decide +kernel⟩
theorem lk_X7_465 : LK RX7 465 yX7_mark := Or.inl (List.mem_of_getElem? (i := 614) (by decide +kernel))
theorem mf_X7_mark : MFv yX7_mark cX7_mark 2 (some .int) 1 := ⟨List.mem_of_getElem? (i := 615) (by decide +kernel), List.mem_of_getElem? (i := 616) (by decide +kernel), List.mem_of_getElem? (i := 61) (by decide +kernel), List.mem_of_getElem? (i := 617) (by decide +kernel), by decide +kernel, by decide +kernel, by decide +kernel⟩
theorem lk_X7_462 : LK RX7 462 yX7_ofPlace := Or.inl (List.mem_of_getElem? (i := 604) (by decide +kernel))
theorem mf_X7_ofPlace : MFv yX7_ofPlace cX7_ofPlace 3 (some .int) 2 := ⟨List.mem_of_getElem? (i := 605) (by decide +kernel), List.mem_of_getElem? (i := 606) (by decide +kernel), List.mem_of_getElem? (i := 61) (by decide +kernel), List.mem_of_getElem? (i := 607) (by decide +kernel), by decide +kernel, by decide +kernel, by decide +kernel⟩
theorem lk_X7_419 : LK RX7 419 yX7_digestPans := Or.inl (List.mem_of_getElem? (i := 460) (by decide +kernel))
theorem mf_X7_digestPans : MFv yX7_digestPans cX7_digestPans 7 (some .long) 1 := ⟨List.mem_of_getElem? (i := 462) (by decide +kernel), List.mem_of_getElem? (i := 12) (by decide +kernel), List.mem_of_getElem? (i := 61) (by decide +kernel), List.mem_of_getElem? (i := 463) (by decide +kernel), by decide +kernel, by decide +kernel, by decide +kernel⟩
theorem lk_X7_423 : LK RX7 423 yX7_digestPhrases := Or.inl (List.mem_of_getElem? (i := 534) (by decide +kernel))
theorem mf_X7_digestPhrases : MFv yX7_digestPhrases cX7_digestPhrases 7 (some .long) 1 := ⟨List.mem_of_getElem? (i := 536) (by decide +kernel), List.mem_of_getElem? (i := 16) (by decide +kernel), List.mem_of_getElem? (i := 61) (by decide +kernel), List.mem_of_getElem? (i := 537) (by decide +kernel), by decide +kernel, by decide +kernel, by decide +kernel⟩
theorem lk_X7_426 : LK RX7 426 yX7_digestPlayers := Or.inl (List.mem_of_getElem? (i := 547) (by decide +kernel))
theorem mf_X7_digestPlayers : MFv yX7_digestPlayers cX7_digestPlayers 7 (some .long) 1 := ⟨List.mem_of_getElem? (i := 549) (by decide +kernel), List.mem_of_getElem? (i := 18) (by decide +kernel), List.mem_of_getElem? (i := 61) (by decide +kernel), List.mem_of_getElem? (i := 550) (by decide +kernel), by decide +kernel, by decide +kernel, by decide +kernel⟩
theorem lk_X7_429 : LK RX7 429 yX7_digestPlacesAndMarks := Or.inl (List.mem_of_getElem? (i := 600) (by decide +kernel))
theorem mf_X7_digestPlacesAndMarks : MFv yX7_digestPlacesAndMarks cX7_digestPlacesAndMarks 6 (some .long) 1 := ⟨List.mem_of_getElem? (i := 602) (by decide +kernel), List.mem_of_getElem? (i := 22) (by decide +kernel), List.mem_of_getElem? (i := 61) (by decide +kernel), List.mem_of_getElem? (i := 603) (by decide +kernel), by decide +kernel, by decide +kernel, by decide +kernel⟩
theorem lk_X7_435 : LK RX7 435 yX7_wouldTotal := Or.inl (List.mem_of_getElem? (i := 624) (by decide +kernel))
theorem mf_X7_wouldTotal : MFv yX7_wouldTotal cX7_wouldTotal 3 (some .int) 1 := ⟨List.mem_of_getElem? (i := 625) (by decide +kernel), List.mem_of_getElem? (i := 626) (by decide +kernel), List.mem_of_getElem? (i := 61) (by decide +kernel), List.mem_of_getElem? (i := 627) (by decide +kernel), by decide +kernel, by decide +kernel, by decide +kernel⟩
theorem lk_X7_438 : LK RX7 438 yX7_bestOrder := Or.inl (List.mem_of_getElem? (i := 634) (by decide +kernel))
theorem mf_X7_bestOrder : MFv yX7_bestOrder cX7_bestOrder 5 (some .int) 0 := ⟨List.mem_of_getElem? (i := 635) (by decide +kernel), List.mem_of_getElem? (i := 636) (by decide +kernel), List.mem_of_getElem? (i := 61) (by decide +kernel), List.mem_of_getElem? (i := 637) (by decide +kernel), by decide +kernel, by decide +kernel, by decide +kernel⟩
theorem lk_X7_432 : LK RX7 432 yX7_ofRound := Or.inl (List.mem_of_getElem? (i := 619) (by decide +kernel))
theorem mf_X7_ofRound : MFv yX7_ofRound cX7_ofRound 3 (some .int) 2 := ⟨List.mem_of_getElem? (i := 620) (by decide +kernel), List.mem_of_getElem? (i := 621) (by decide +kernel), List.mem_of_getElem? (i := 61) (by decide +kernel), List.mem_of_getElem? (i := 622) (by decide +kernel), by decide +kernel, by decide +kernel, by decide +kernel⟩
theorem lk_X7_416 : LK RX7 416 yX7_many := Or.inl (List.mem_of_getElem? (i := 284) (by decide +kernel))
theorem mf_X7_many : MFv yX7_many cX7_many 2 (some .int) 1 := ⟨List.mem_of_getElem? (i := 285) (by decide +kernel), List.mem_of_getElem? (i := 286) (by decide +kernel), List.mem_of_getElem? (i := 61) (by decide +kernel), List.mem_of_getElem? (i := 287) (by decide +kernel), by decide +kernel, by decide +kernel, by decide +kernel⟩
theorem th_X7_276_280 : THR RX7 "java/lang/IndexOutOfBoundsException" ["java/lang/RuntimeException", "java/lang/Exception"] 276 280 := ⟨by decide +kernel, by decide +kernel, List.mem_of_getElem? (i := 475) (by decide +kernel), List.mem_of_getElem? (i := 74) (by decide +kernel), by decide +kernel⟩
theorem th_X7_83_87 : THR RX7 "java/lang/IllegalStateException" ["java/lang/RuntimeException", "java/lang/Exception"] 83 87 := ⟨by decide +kernel, by decide +kernel, List.mem_of_getElem? (i := 638) (by decide +kernel), List.mem_of_getElem? (i := 75) (by decide +kernel), by decide +kernel⟩
theorem th_X7_100_104 : THR RX7 "java/lang/IllegalArgumentException" ["java/lang/RuntimeException", "java/lang/Exception"] 100 104 := ⟨by decide +kernel, by decide +kernel, List.mem_of_getElem? (i := 392) (by decide +kernel), List.mem_of_getElem? (i := 81) (by decide +kernel), by decide +kernel⟩
