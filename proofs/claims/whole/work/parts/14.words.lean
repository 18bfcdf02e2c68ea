/-! words of the tables, by their places (printed by wip/whole/gen) -/
theorem wf_X0_18 : Cond.fieldLink RX0 18 "CutConformer$Cut" "count" "I" ∈ lw_gt := gt_in (List.mem_append_right _ (List.mem_of_getElem? (i := 66) (by decide +kernel))) rfl
theorem wf_X0_9 : Cond.fieldLink RX0 9 "CutConformer$Cut" "firsts" "[I" ∈ lw_gt := gt_in (List.mem_append_right _ (List.mem_of_getElem? (i := 64) (by decide +kernel))) rfl
theorem wm_X0_22 : Cond.methodLink RX0 22 arraycopyName ∈ lw_gt := gt_in (List.mem_append_right _ (List.mem_of_getElem? (i := 267) (by decide +kernel))) rfl
theorem wna_copy : Cond.native arraycopyName ∈ lw_gt := gt_in (List.mem_append_right _ (List.mem_of_getElem? (i := 41) (by decide +kernel))) rfl
theorem wst_copy : Cond.static arraycopyName ∈ lw_gt := gt_in (List.mem_append_right _ (List.mem_of_getElem? (i := 40) (by decide +kernel))) rfl
theorem win_System : Cond.initialized "java/lang/System" ∈ lw_gt := gt_in (List.mem_append_right _ (List.mem_of_getElem? (i := 4) (by decide +kernel))) rfl
theorem wf_X0_15 : Cond.fieldLink RX0 15 "CutConformer$Cut" "lengths" "[I" ∈ lw_gt := gt_in (List.mem_append_right _ (List.mem_of_getElem? (i := 65) (by decide +kernel))) rfl
theorem wm_X0_28 : Cond.methodLink RX0 28 yX0_has ∈ lw_gt := gt_in (List.mem_append_right _ (List.mem_of_getElem? (i := 301) (by decide +kernel))) rfl
theorem ck_X0_has : CkE yX0_has cX0_has 2 (some .boolean) 1 := ⟨gt_in (List.mem_append_right _ (List.mem_of_getElem? (i := 296) (by decide +kernel))) rfl, gt_in (List.mem_append_right _ (List.mem_of_getElem? (i := 6) (by decide +kernel))) rfl, by decide +kernel⟩
theorem win_X0_has : Cond.instanceMethod yX0_has ∈ lw_gt := gt_in (List.mem_append_right _ (List.mem_of_getElem? (i := 294) (by decide +kernel))) rfl
theorem wsel_X0_has : Cond.selects yX0_has.cls yX0_has yX0_has ∈ lw_gt := gt_in (List.mem_append_right _ (List.mem_of_getElem? (i := 295) (by decide +kernel))) rfl
theorem wm_X0_32 : Cond.methodLink RX0 32 yX0_startOf ∈ lw_gt := gt_in (List.mem_append_right _ (List.mem_of_getElem? (i := 247) (by decide +kernel))) rfl
theorem ck_X0_startOf : CkE yX0_startOf cX0_startOf 4 (some .int) 1 := ⟨gt_in (List.mem_append_right _ (List.mem_of_getElem? (i := 250) (by decide +kernel))) rfl, gt_in (List.mem_append_right _ (List.mem_of_getElem? (i := 6) (by decide +kernel))) rfl, by decide +kernel⟩
theorem win_X0_startOf : Cond.instanceMethod yX0_startOf ∈ lw_gt := gt_in (List.mem_append_right _ (List.mem_of_getElem? (i := 248) (by decide +kernel))) rfl
theorem wsel_X0_startOf : Cond.selects yX0_startOf.cls yX0_startOf yX0_startOf ∈ lw_gt := gt_in (List.mem_append_right _ (List.mem_of_getElem? (i := 249) (by decide +kernel))) rfl
theorem wf_X1_20 : Cond.fieldLink RX1 20 "CutConformer$History" "count" "I" ∈ lw_gt := gt_in (List.mem_append_right _ (List.mem_of_getElem? (i := 210) (by decide +kernel))) rfl
theorem wf_X1_11 : Cond.fieldLink RX1 11 "CutConformer$History" "states" "[LCutConformer$State;" ∈ lw_gt := gt_in (List.mem_append_right _ (List.mem_of_getElem? (i := 209) (by decide +kernel))) rfl
theorem wf_X4_15 : Cond.fieldLink RX4 15 "CutConformer$Shots" "count" "I" ∈ lw_gt := gt_in (List.mem_append_right _ (List.mem_of_getElem? (i := 82) (by decide +kernel))) rfl
theorem wf_X4_9 : Cond.fieldLink RX4 9 "CutConformer$Shots" "frames" "[I" ∈ lw_gt := gt_in (List.mem_append_right _ (List.mem_of_getElem? (i := 81) (by decide +kernel))) rfl
theorem wm_X4_19 : Cond.methodLink RX4 19 arraycopyName ∈ lw_gt := gt_in (List.mem_append_right _ (List.mem_of_getElem? (i := 272) (by decide +kernel))) rfl
theorem wf_X3_13 : Cond.fieldLink RX3 13 "CutConformer$Settings" "values" "[I" ∈ lw_gt := gt_in (List.mem_append_right _ (List.mem_of_getElem? (i := 97) (by decide +kernel))) rfl
theorem wm_X3_18 : Cond.methodLink RX3 18 arraycopyName ∈ lw_gt := gt_in (List.mem_append_right _ (List.mem_of_getElem? (i := 96) (by decide +kernel))) rfl
theorem wf_X6_16 : Cond.fieldLink RX6 16 "CutConformer$Subtitle" "first" "I" ∈ lw_gt := gt_in (List.mem_append_right _ (List.mem_of_getElem? (i := 114) (by decide +kernel))) rfl
theorem wf_X6_20 : Cond.fieldLink RX6 20 "CutConformer$Subtitle" "end" "I" ∈ lw_gt := gt_in (List.mem_append_right _ (List.mem_of_getElem? (i := 119) (by decide +kernel))) rfl
theorem wf_X6_23 : Cond.fieldLink RX6 23 "CutConformer$Subtitle" "parts" "I" ∈ lw_gt := gt_in (List.mem_append_right _ (List.mem_of_getElem? (i := 124) (by decide +kernel))) rfl
theorem wf_X6_7 : Cond.fieldLink RX6 7 "CutConformer$Subtitle" "one" "LCutConformer$Part;" ∈ lw_gt := gt_in (List.mem_append_right _ (List.mem_of_getElem? (i := 127) (by decide +kernel))) rfl
theorem wf_X6_13 : Cond.fieldLink RX6 13 "CutConformer$Subtitle" "two" "LCutConformer$Part;" ∈ lw_gt := gt_in (List.mem_append_right _ (List.mem_of_getElem? (i := 130) (by decide +kernel))) rfl
theorem wf_X7_24 : Cond.fieldLink RX7 24 "CutConformer$Track" "count" "I" ∈ lw_gt := gt_in (List.mem_append_right _ (List.mem_of_getElem? (i := 145) (by decide +kernel))) rfl
theorem wf_X7_11 : Cond.fieldLink RX7 11 "CutConformer$Track" "rows" "[LCutConformer$Subtitle;" ∈ lw_gt := gt_in (List.mem_append_right _ (List.mem_of_getElem? (i := 143) (by decide +kernel))) rfl
theorem wm_X7_28 : Cond.methodLink RX7 28 yX6_become ∈ lw_gt := gt_in (List.mem_append_right _ (List.mem_of_getElem? (i := 281) (by decide +kernel))) rfl
theorem ck_X6_become : CkE yX6_become cX6_become 2 none 1 := ⟨gt_in (List.mem_append_right _ (List.mem_of_getElem? (i := 284) (by decide +kernel))) rfl, gt_in (List.mem_append_right _ (List.mem_of_getElem? (i := 10) (by decide +kernel))) rfl, by decide +kernel⟩
theorem win_X6_become : Cond.instanceMethod yX6_become ∈ lw_gt := gt_in (List.mem_append_right _ (List.mem_of_getElem? (i := 282) (by decide +kernel))) rfl
theorem wsel_X6_become : Cond.selects yX6_become.cls yX6_become yX6_become ∈ lw_gt := gt_in (List.mem_append_right _ (List.mem_of_getElem? (i := 283) (by decide +kernel))) rfl
theorem wf_X5_12 : Cond.fieldLink RX5 12 "CutConformer$State" "cut" "LCutConformer$Cut;" ∈ lw_gt := gt_in (List.mem_append_right _ (List.mem_of_getElem? (i := 153) (by decide +kernel))) rfl
theorem wm_X5_41 : Cond.methodLink RX5 41 yX0_become ∈ lw_gt := gt_in (List.mem_append_right _ (List.mem_of_getElem? (i := 263) (by decide +kernel))) rfl
theorem ck_X0_become : CkE yX0_become cX0_become 2 none 1 := ⟨gt_in (List.mem_append_right _ (List.mem_of_getElem? (i := 266) (by decide +kernel))) rfl, gt_in (List.mem_append_right _ (List.mem_of_getElem? (i := 6) (by decide +kernel))) rfl, by decide +kernel⟩
theorem win_X0_become : Cond.instanceMethod yX0_become ∈ lw_gt := gt_in (List.mem_append_right _ (List.mem_of_getElem? (i := 264) (by decide +kernel))) rfl
theorem wsel_X0_become : Cond.selects yX0_become.cls yX0_become yX0_become ∈ lw_gt := gt_in (List.mem_append_right _ (List.mem_of_getElem? (i := 265) (by decide +kernel))) rfl
theorem wf_X5_21 : Cond.fieldLink RX5 21 "CutConformer$State" "shots" "LCutConformer$Shots;" ∈ lw_gt := gt_in (List.mem_append_right _ (List.mem_of_getElem? (i := 156) (by decide +kernel))) rfl
theorem wm_X5_45 : Cond.methodLink RX5 45 yX4_become ∈ lw_gt := gt_in (List.mem_append_right _ (List.mem_of_getElem? (i := 268) (by decide +kernel))) rfl
theorem ck_X4_become : CkE yX4_become cX4_become 2 none 1 := ⟨gt_in (List.mem_append_right _ (List.mem_of_getElem? (i := 271) (by decide +kernel))) rfl, gt_in (List.mem_append_right _ (List.mem_of_getElem? (i := 7) (by decide +kernel))) rfl, by decide +kernel⟩
theorem win_X4_become : Cond.instanceMethod yX4_become ∈ lw_gt := gt_in (List.mem_append_right _ (List.mem_of_getElem? (i := 269) (by decide +kernel))) rfl
theorem wsel_X4_become : Cond.selects yX4_become.cls yX4_become yX4_become ∈ lw_gt := gt_in (List.mem_append_right _ (List.mem_of_getElem? (i := 270) (by decide +kernel))) rfl
theorem wf_X5_28 : Cond.fieldLink RX5 28 "CutConformer$State" "settings" "LCutConformer$Settings;" ∈ lw_gt := gt_in (List.mem_append_right _ (List.mem_of_getElem? (i := 159) (by decide +kernel))) rfl
theorem wm_X5_48 : Cond.methodLink RX5 48 yX3_become ∈ lw_gt := gt_in (List.mem_append_right _ (List.mem_of_getElem? (i := 273) (by decide +kernel))) rfl
theorem ck_X3_become : CkE yX3_become cX3_become 2 none 1 := ⟨gt_in (List.mem_append_right _ (List.mem_of_getElem? (i := 276) (by decide +kernel))) rfl, gt_in (List.mem_append_right _ (List.mem_of_getElem? (i := 8) (by decide +kernel))) rfl, by decide +kernel⟩
theorem win_X3_become : Cond.instanceMethod yX3_become ∈ lw_gt := gt_in (List.mem_append_right _ (List.mem_of_getElem? (i := 274) (by decide +kernel))) rfl
theorem wsel_X3_become : Cond.selects yX3_become.cls yX3_become yX3_become ∈ lw_gt := gt_in (List.mem_append_right _ (List.mem_of_getElem? (i := 275) (by decide +kernel))) rfl
theorem wf_X5_37 : Cond.fieldLink RX5 37 "CutConformer$State" "track" "LCutConformer$Track;" ∈ lw_gt := gt_in (List.mem_append_right _ (List.mem_of_getElem? (i := 162) (by decide +kernel))) rfl
theorem wm_X5_51 : Cond.methodLink RX5 51 yX7_become ∈ lw_gt := gt_in (List.mem_append_right _ (List.mem_of_getElem? (i := 277) (by decide +kernel))) rfl
theorem ck_X7_become : CkE yX7_become cX7_become 3 none 1 := ⟨gt_in (List.mem_append_right _ (List.mem_of_getElem? (i := 280) (by decide +kernel))) rfl, gt_in (List.mem_append_right _ (List.mem_of_getElem? (i := 9) (by decide +kernel))) rfl, by decide +kernel⟩
theorem win_X7_become : Cond.instanceMethod yX7_become ∈ lw_gt := gt_in (List.mem_append_right _ (List.mem_of_getElem? (i := 278) (by decide +kernel))) rfl
theorem wsel_X7_become : Cond.selects yX7_become.cls yX7_become yX7_become ∈ lw_gt := gt_in (List.mem_append_right _ (List.mem_of_getElem? (i := 279) (by decide +kernel))) rfl
theorem wm_X1_27 : Cond.methodLink RX1 27 yX5_become ∈ lw_gt := gt_in (List.mem_append_right _ (List.mem_of_getElem? (i := 259) (by decide +kernel))) rfl
theorem ck_X5_become : CkE yX5_become cX5_become 2 none 1 := ⟨gt_in (List.mem_append_right _ (List.mem_of_getElem? (i := 262) (by decide +kernel))) rfl, gt_in (List.mem_append_right _ (List.mem_of_getElem? (i := 5) (by decide +kernel))) rfl, by decide +kernel⟩
theorem win_X5_become : Cond.instanceMethod yX5_become ∈ lw_gt := gt_in (List.mem_append_right _ (List.mem_of_getElem? (i := 260) (by decide +kernel))) rfl
theorem wsel_X5_become : Cond.selects yX5_become.cls yX5_become yX5_become ∈ lw_gt := gt_in (List.mem_append_right _ (List.mem_of_getElem? (i := 261) (by decide +kernel))) rfl
theorem wm_X1_24 : Cond.methodLink RX1 24 yX1_forgetOldest ∈ lw_gt := gt_in (List.mem_append_right _ (List.mem_of_getElem? (i := 255) (by decide +kernel))) rfl
theorem ck_X1_forgetOldest : CkE yX1_forgetOldest cX1_forgetOldest 3 none 0 := ⟨gt_in (List.mem_append_right _ (List.mem_of_getElem? (i := 258) (by decide +kernel))) rfl, gt_in (List.mem_append_right _ (List.mem_of_getElem? (i := 12) (by decide +kernel))) rfl, by decide +kernel⟩
theorem win_X1_forgetOldest : Cond.instanceMethod yX1_forgetOldest ∈ lw_gt := gt_in (List.mem_append_right _ (List.mem_of_getElem? (i := 257) (by decide +kernel))) rfl
theorem wsel_X1_forgetOldest : Cond.selects yX1_forgetOldest.cls yX1_forgetOldest yX1_forgetOldest ∈ lw_gt := gt_in (List.mem_append_left _ (List.mem_of_getElem? (i := 0) (by decide +kernel))) rfl
theorem wf_X2_24 : Cond.fieldLink RX2 24 "CutConformer$Part" "text" "[B" ∈ lw_gt := gt_in (List.mem_append_right _ (List.mem_of_getElem? (i := 45) (by decide +kernel))) rfl
theorem wm_X2_54 : Cond.methodLink RX2 54 yJ0_length_8abf5 ∈ lw_gt := gt_in (List.mem_append_right _ (List.mem_of_getElem? (i := 516) (by decide +kernel))) rfl
theorem wm_X2_41 : Cond.methodLink RX2 41 yX2_byteAt ∈ lw_gt := gt_in (List.mem_append_right _ (List.mem_of_getElem? (i := 510) (by decide +kernel))) rfl
theorem ck_X2_byteAt : CkE yX2_byteAt cX2_byteAt 2 (some .int) 1 := ⟨gt_in (List.mem_append_right _ (List.mem_of_getElem? (i := 499) (by decide +kernel))) rfl, gt_in (List.mem_append_right _ (List.mem_of_getElem? (i := 2) (by decide +kernel))) rfl, by decide +kernel⟩
theorem win_X2_byteAt : Cond.instanceMethod yX2_byteAt ∈ lw_gt := gt_in (List.mem_append_right _ (List.mem_of_getElem? (i := 497) (by decide +kernel))) rfl
theorem wsel_X2_byteAt : Cond.selects yX2_byteAt.cls yX2_byteAt yX2_byteAt ∈ lw_gt := gt_in (List.mem_append_right _ (List.mem_of_getElem? (i := 498) (by decide +kernel))) rfl
theorem wm_X2_60 : Cond.methodLink RX2 60 yJ0_charAt_5068e ∈ lw_gt := gt_in (List.mem_append_right _ (List.mem_of_getElem? (i := 526) (by decide +kernel))) rfl
theorem wm_X2_46 : Cond.methodLink RX2 46 yX2_isWord ∈ lw_gt := gt_in (List.mem_append_right _ (List.mem_of_getElem? (i := 512) (by decide +kernel))) rfl
theorem ck_X2_isWord : CkE yX2_isWord cX2_isWord 4 (some .boolean) 2 := ⟨gt_in (List.mem_append_right _ (List.mem_of_getElem? (i := 515) (by decide +kernel))) rfl, gt_in (List.mem_append_right _ (List.mem_of_getElem? (i := 2) (by decide +kernel))) rfl, by decide +kernel⟩
theorem win_X2_isWord : Cond.instanceMethod yX2_isWord ∈ lw_gt := gt_in (List.mem_append_right _ (List.mem_of_getElem? (i := 514) (by decide +kernel))) rfl
theorem wsel_X2_isWord : Cond.selects yX2_isWord.cls yX2_isWord yX2_isWord ∈ lw_gt := gt_in (List.mem_append_left _ (List.mem_of_getElem? (i := 4) (by decide +kernel))) rfl
theorem wm_X2_34 : Cond.methodLink RX2 34 yX2_longerLine ∈ lw_gt := gt_in (List.mem_append_right _ (List.mem_of_getElem? (i := 486) (by decide +kernel))) rfl
theorem ck_X2_longerLine : CkE yX2_longerLine cX2_longerLine 3 (some .int) 1 := ⟨gt_in (List.mem_append_right _ (List.mem_of_getElem? (i := 489) (by decide +kernel))) rfl, gt_in (List.mem_append_right _ (List.mem_of_getElem? (i := 2) (by decide +kernel))) rfl, by decide +kernel⟩
theorem win_X2_longerLine : Cond.instanceMethod yX2_longerLine ∈ lw_gt := gt_in (List.mem_append_right _ (List.mem_of_getElem? (i := 488) (by decide +kernel))) rfl
theorem wsel_X2_longerLine : Cond.selects yX2_longerLine.cls yX2_longerLine yX2_longerLine ∈ lw_gt := gt_in (List.mem_append_left _ (List.mem_of_getElem? (i := 3) (by decide +kernel))) rfl
theorem wm_X2_38 : Cond.methodLink RX2 38 yX2_rankOf ∈ lw_gt := gt_in (List.mem_append_right _ (List.mem_of_getElem? (i := 506) (by decide +kernel))) rfl
theorem ck_X2_rankOf : CkE yX2_rankOf cX2_rankOf 4 (some .int) 1 := ⟨gt_in (List.mem_append_right _ (List.mem_of_getElem? (i := 509) (by decide +kernel))) rfl, gt_in (List.mem_append_right _ (List.mem_of_getElem? (i := 2) (by decide +kernel))) rfl, by decide +kernel⟩
theorem win_X2_rankOf : Cond.instanceMethod yX2_rankOf ∈ lw_gt := gt_in (List.mem_append_right _ (List.mem_of_getElem? (i := 507) (by decide +kernel))) rfl
theorem wsel_X2_rankOf : Cond.selects yX2_rankOf.cls yX2_rankOf yX2_rankOf ∈ lw_gt := gt_in (List.mem_append_right _ (List.mem_of_getElem? (i := 508) (by decide +kernel))) rfl
theorem wm_X4_29 : Cond.methodLink RX4 29 Lib.Math.abs.name ∈ lw_gt := gt_in (List.mem_append_right _ (List.mem_of_getElem? (i := 327) (by decide +kernel))) rfl
theorem wst_abs : Cond.static Lib.Math.abs.name ∈ lw_gt := gt_in (List.mem_append_right _ (List.mem_of_getElem? (i := 328) (by decide +kernel))) rfl
theorem win_Math : Cond.initialized "java/lang/Math" ∈ lw_gt := gt_in (List.mem_append_right _ (List.mem_of_getElem? (i := 3) (by decide +kernel))) rfl
theorem wco_abs : Cond.code Lib.Math.abs.name Lib.Math.abs.code 1 (some .int) ∈ lw_gt := gt_in (List.mem_append_right _ (List.mem_of_getElem? (i := 329) (by decide +kernel))) rfl
theorem wm_X4_25 : Cond.methodLink RX4 25 yX4_nearest ∈ lw_gt := gt_in (List.mem_append_right _ (List.mem_of_getElem? (i := 323) (by decide +kernel))) rfl
theorem ck_X4_nearest : CkE yX4_nearest cX4_nearest 7 (some .int) 2 := ⟨gt_in (List.mem_append_right _ (List.mem_of_getElem? (i := 326) (by decide +kernel))) rfl, gt_in (List.mem_append_right _ (List.mem_of_getElem? (i := 7) (by decide +kernel))) rfl, by decide +kernel⟩
theorem win_X4_nearest : Cond.instanceMethod yX4_nearest ∈ lw_gt := gt_in (List.mem_append_right _ (List.mem_of_getElem? (i := 324) (by decide +kernel))) rfl
theorem wsel_X4_nearest : Cond.selects yX4_nearest.cls yX4_nearest yX4_nearest ∈ lw_gt := gt_in (List.mem_append_right _ (List.mem_of_getElem? (i := 325) (by decide +kernel))) rfl
theorem wm_X4_35 : Cond.methodLink RX4 35 yX4_has ∈ lw_gt := gt_in (List.mem_append_right _ (List.mem_of_getElem? (i := 338) (by decide +kernel))) rfl
theorem ck_X4_has : CkE yX4_has cX4_has 2 (some .boolean) 1 := ⟨gt_in (List.mem_append_right _ (List.mem_of_getElem? (i := 322) (by decide +kernel))) rfl, gt_in (List.mem_append_right _ (List.mem_of_getElem? (i := 7) (by decide +kernel))) rfl, by decide +kernel⟩
theorem win_X4_has : Cond.instanceMethod yX4_has ∈ lw_gt := gt_in (List.mem_append_right _ (List.mem_of_getElem? (i := 320) (by decide +kernel))) rfl
theorem wsel_X4_has : Cond.selects yX4_has.cls yX4_has yX4_has ∈ lw_gt := gt_in (List.mem_append_right _ (List.mem_of_getElem? (i := 321) (by decide +kernel))) rfl
theorem wm_X6_26 : Cond.methodLink RX6 26 yX2_bytes ∈ lw_gt := gt_in (List.mem_append_right _ (List.mem_of_getElem? (i := 437) (by decide +kernel))) rfl
theorem ck_X2_bytes : CkE yX2_bytes cX2_bytes 1 (some .int) 0 := ⟨gt_in (List.mem_append_right _ (List.mem_of_getElem? (i := 440) (by decide +kernel))) rfl, gt_in (List.mem_append_right _ (List.mem_of_getElem? (i := 2) (by decide +kernel))) rfl, by decide +kernel⟩
theorem win_X2_bytes : Cond.instanceMethod yX2_bytes ∈ lw_gt := gt_in (List.mem_append_right _ (List.mem_of_getElem? (i := 438) (by decide +kernel))) rfl
theorem wsel_X2_bytes : Cond.selects yX2_bytes.cls yX2_bytes yX2_bytes ∈ lw_gt := gt_in (List.mem_append_right _ (List.mem_of_getElem? (i := 439) (by decide +kernel))) rfl
theorem wm_X5_54 : Cond.methodLink RX5 54 yX3_at ∈ lw_gt := gt_in (List.mem_append_right _ (List.mem_of_getElem? (i := 445) (by decide +kernel))) rfl
theorem ck_X3_at : CkE yX3_at cX3_at 2 (some .int) 1 := ⟨gt_in (List.mem_append_right _ (List.mem_of_getElem? (i := 448) (by decide +kernel))) rfl, gt_in (List.mem_append_right _ (List.mem_of_getElem? (i := 8) (by decide +kernel))) rfl, by decide +kernel⟩
theorem win_X3_at : Cond.instanceMethod yX3_at ∈ lw_gt := gt_in (List.mem_append_right _ (List.mem_of_getElem? (i := 446) (by decide +kernel))) rfl
theorem wsel_X3_at : Cond.selects yX3_at.cls yX3_at yX3_at ∈ lw_gt := gt_in (List.mem_append_right _ (List.mem_of_getElem? (i := 447) (by decide +kernel))) rfl
theorem wm_X5_58 : Cond.methodLink RX5 58 yX6_characters ∈ lw_gt := gt_in (List.mem_append_right _ (List.mem_of_getElem? (i := 449) (by decide +kernel))) rfl
theorem ck_X6_characters : CkE yX6_characters cX6_characters 1 (some .int) 0 := ⟨gt_in (List.mem_append_right _ (List.mem_of_getElem? (i := 436) (by decide +kernel))) rfl, gt_in (List.mem_append_right _ (List.mem_of_getElem? (i := 10) (by decide +kernel))) rfl, by decide +kernel⟩
theorem win_X6_characters : Cond.instanceMethod yX6_characters ∈ lw_gt := gt_in (List.mem_append_right _ (List.mem_of_getElem? (i := 434) (by decide +kernel))) rfl
theorem wsel_X6_characters : Cond.selects yX6_characters.cls yX6_characters yX6_characters ∈ lw_gt := gt_in (List.mem_append_right _ (List.mem_of_getElem? (i := 435) (by decide +kernel))) rfl
theorem wm_X5_64 : Cond.methodLink RX5 64 Lib.Math.max.name ∈ lw_gt := gt_in (List.mem_append_right _ (List.mem_of_getElem? (i := 450) (by decide +kernel))) rfl
theorem wst_max : Cond.static Lib.Math.max.name ∈ lw_gt := gt_in (List.mem_append_right _ (List.mem_of_getElem? (i := 37) (by decide +kernel))) rfl
theorem wco_max : Cond.code Lib.Math.max.name Lib.Math.max.code 2 (some .int) ∈ lw_gt := gt_in (List.mem_append_right _ (List.mem_of_getElem? (i := 38) (by decide +kernel))) rfl
theorem wm_X7_32 : Cond.methodLink RX7 32 yX7_has ∈ lw_gt := gt_in (List.mem_append_right _ (List.mem_of_getElem? (i := 399) (by decide +kernel))) rfl
theorem ck_X7_has : CkE yX7_has cX7_has 2 (some .boolean) 1 := ⟨gt_in (List.mem_append_right _ (List.mem_of_getElem? (i := 402) (by decide +kernel))) rfl, gt_in (List.mem_append_right _ (List.mem_of_getElem? (i := 9) (by decide +kernel))) rfl, by decide +kernel⟩
theorem win_X7_has : Cond.instanceMethod yX7_has ∈ lw_gt := gt_in (List.mem_append_right _ (List.mem_of_getElem? (i := 400) (by decide +kernel))) rfl
theorem wsel_X7_has : Cond.selects yX7_has.cls yX7_has yX7_has ∈ lw_gt := gt_in (List.mem_append_right _ (List.mem_of_getElem? (i := 401) (by decide +kernel))) rfl
theorem wf_X7_40 : Cond.fieldLink RX7 40 "CutConformer$Subtitle" "first" "I" ∈ lw_gt := gt_in (List.mem_append_right _ (List.mem_of_getElem? (i := 117) (by decide +kernel))) rfl
theorem wf_X7_20 : Cond.fieldLink RX7 20 "CutConformer$Track" "missing" "LCutConformer$Subtitle;" ∈ lw_gt := gt_in (List.mem_append_right _ (List.mem_of_getElem? (i := 144) (by decide +kernel))) rfl
theorem wm_X5_70 : Cond.methodLink RX5 70 yX7_next ∈ lw_gt := gt_in (List.mem_append_right _ (List.mem_of_getElem? (i := 465) (by decide +kernel))) rfl
theorem ck_X7_next : CkE yX7_next cX7_next 3 (some .int) 1 := ⟨gt_in (List.mem_append_right _ (List.mem_of_getElem? (i := 468) (by decide +kernel))) rfl, gt_in (List.mem_append_right _ (List.mem_of_getElem? (i := 9) (by decide +kernel))) rfl, by decide +kernel⟩
theorem win_X7_next : Cond.instanceMethod yX7_next ∈ lw_gt := gt_in (List.mem_append_right _ (List.mem_of_getElem? (i := 466) (by decide +kernel))) rfl
theorem wsel_X7_next : Cond.selects yX7_next.cls yX7_next yX7_next ∈ lw_gt := gt_in (List.mem_append_right _ (List.mem_of_getElem? (i := 467) (by decide +kernel))) rfl
theorem wm_X5_73 : Cond.methodLink RX5 73 yX7_at ∈ lw_gt := gt_in (List.mem_append_right _ (List.mem_of_getElem? (i := 455) (by decide +kernel))) rfl
theorem ck_X7_at : CkE yX7_at cX7_at 2 (some (.object "CutConformer$Subtitle")) 1 := ⟨gt_in (List.mem_append_right _ (List.mem_of_getElem? (i := 432) (by decide +kernel))) rfl, gt_in (List.mem_append_right _ (List.mem_of_getElem? (i := 9) (by decide +kernel))) rfl, by decide +kernel⟩
theorem win_X7_at : Cond.instanceMethod yX7_at ∈ lw_gt := gt_in (List.mem_append_right _ (List.mem_of_getElem? (i := 430) (by decide +kernel))) rfl
theorem wsel_X7_at : Cond.selects yX7_at.cls yX7_at yX7_at ∈ lw_gt := gt_in (List.mem_append_right _ (List.mem_of_getElem? (i := 431) (by decide +kernel))) rfl
theorem wf_X5_76 : Cond.fieldLink RX5 76 "CutConformer$Subtitle" "first" "I" ∈ lw_gt := gt_in (List.mem_append_right _ (List.mem_of_getElem? (i := 115) (by decide +kernel))) rfl
theorem wm_X7_61 : Cond.methodLink RX7 61 yX7_at ∈ lw_gt := gt_in (List.mem_append_right _ (List.mem_of_getElem? (i := 473) (by decide +kernel))) rfl
theorem wm_X6_32 : Cond.methodLink RX6 32 yX2_isTooWide ∈ lw_gt := gt_in (List.mem_append_right _ (List.mem_of_getElem? (i := 482) (by decide +kernel))) rfl
theorem ck_X2_isTooWide : CkE yX2_isTooWide cX2_isTooWide 4 (some .boolean) 1 := ⟨gt_in (List.mem_append_right _ (List.mem_of_getElem? (i := 485) (by decide +kernel))) rfl, gt_in (List.mem_append_right _ (List.mem_of_getElem? (i := 2) (by decide +kernel))) rfl, by decide +kernel⟩
theorem win_X2_isTooWide : Cond.instanceMethod yX2_isTooWide ∈ lw_gt := gt_in (List.mem_append_right _ (List.mem_of_getElem? (i := 483) (by decide +kernel))) rfl
theorem wsel_X2_isTooWide : Cond.selects yX2_isTooWide.cls yX2_isTooWide yX2_isTooWide ∈ lw_gt := gt_in (List.mem_append_right _ (List.mem_of_getElem? (i := 484) (by decide +kernel))) rfl
theorem wm_X5_80 : Cond.methodLink RX5 80 yX6_length ∈ lw_gt := gt_in (List.mem_append_right _ (List.mem_of_getElem? (i := 456) (by decide +kernel))) rfl
theorem ck_X6_length : CkE yX6_length cX6_length 1 (some .int) 0 := ⟨gt_in (List.mem_append_right _ (List.mem_of_getElem? (i := 459) (by decide +kernel))) rfl, gt_in (List.mem_append_right _ (List.mem_of_getElem? (i := 10) (by decide +kernel))) rfl, by decide +kernel⟩
theorem win_X6_length : Cond.instanceMethod yX6_length ∈ lw_gt := gt_in (List.mem_append_right _ (List.mem_of_getElem? (i := 457) (by decide +kernel))) rfl
theorem wsel_X6_length : Cond.selects yX6_length.cls yX6_length yX6_length ∈ lw_gt := gt_in (List.mem_append_right _ (List.mem_of_getElem? (i := 458) (by decide +kernel))) rfl
theorem wm_X5_83 : Cond.methodLink RX5 83 yX5_readingLength ∈ lw_gt := gt_in (List.mem_append_right _ (List.mem_of_getElem? (i := 460) (by decide +kernel))) rfl
theorem ck_X5_readingLength : CkE yX5_readingLength cX5_readingLength 3 (some .int) 1 := ⟨gt_in (List.mem_append_right _ (List.mem_of_getElem? (i := 444) (by decide +kernel))) rfl, gt_in (List.mem_append_right _ (List.mem_of_getElem? (i := 5) (by decide +kernel))) rfl, by decide +kernel⟩
theorem win_X5_readingLength : Cond.instanceMethod yX5_readingLength ∈ lw_gt := gt_in (List.mem_append_right _ (List.mem_of_getElem? (i := 442) (by decide +kernel))) rfl
theorem wsel_X5_readingLength : Cond.selects yX5_readingLength.cls yX5_readingLength yX5_readingLength ∈ lw_gt := gt_in (List.mem_append_right _ (List.mem_of_getElem? (i := 443) (by decide +kernel))) rfl
theorem wf_X5_87 : Cond.fieldLink RX5 87 "CutConformer$Subtitle" "end" "I" ∈ lw_gt := gt_in (List.mem_append_right _ (List.mem_of_getElem? (i := 120) (by decide +kernel))) rfl
theorem wm_X5_90 : Cond.methodLink RX5 90 yX5_latestEnd ∈ lw_gt := gt_in (List.mem_append_right _ (List.mem_of_getElem? (i := 461) (by decide +kernel))) rfl
theorem ck_X5_latestEnd : CkE yX5_latestEnd cX5_latestEnd 3 (some .int) 1 := ⟨gt_in (List.mem_append_right _ (List.mem_of_getElem? (i := 464) (by decide +kernel))) rfl, gt_in (List.mem_append_right _ (List.mem_of_getElem? (i := 5) (by decide +kernel))) rfl, by decide +kernel⟩
theorem win_X5_latestEnd : Cond.instanceMethod yX5_latestEnd ∈ lw_gt := gt_in (List.mem_append_right _ (List.mem_of_getElem? (i := 462) (by decide +kernel))) rfl
theorem wsel_X5_latestEnd : Cond.selects yX5_latestEnd.cls yX5_latestEnd yX5_latestEnd ∈ lw_gt := gt_in (List.mem_append_right _ (List.mem_of_getElem? (i := 463) (by decide +kernel))) rfl
theorem wm_X5_93 : Cond.methodLink RX5 93 yX7_sharesFirst ∈ lw_gt := gt_in (List.mem_append_right _ (List.mem_of_getElem? (i := 469) (by decide +kernel))) rfl
theorem ck_X7_sharesFirst : CkE yX7_sharesFirst cX7_sharesFirst 3 (some .boolean) 1 := ⟨gt_in (List.mem_append_right _ (List.mem_of_getElem? (i := 472) (by decide +kernel))) rfl, gt_in (List.mem_append_right _ (List.mem_of_getElem? (i := 9) (by decide +kernel))) rfl, by decide +kernel⟩
theorem win_X7_sharesFirst : Cond.instanceMethod yX7_sharesFirst ∈ lw_gt := gt_in (List.mem_append_right _ (List.mem_of_getElem? (i := 470) (by decide +kernel))) rfl
theorem wsel_X7_sharesFirst : Cond.selects yX7_sharesFirst.cls yX7_sharesFirst yX7_sharesFirst ∈ lw_gt := gt_in (List.mem_append_right _ (List.mem_of_getElem? (i := 471) (by decide +kernel))) rfl
theorem wm_X5_97 : Cond.methodLink RX5 97 yX4_isMissed ∈ lw_gt := gt_in (List.mem_append_right _ (List.mem_of_getElem? (i := 474) (by decide +kernel))) rfl
theorem ck_X4_isMissed : CkE yX4_isMissed cX4_isMissed 4 (some .boolean) 2 := ⟨gt_in (List.mem_append_right _ (List.mem_of_getElem? (i := 477) (by decide +kernel))) rfl, gt_in (List.mem_append_right _ (List.mem_of_getElem? (i := 7) (by decide +kernel))) rfl, by decide +kernel⟩
theorem win_X4_isMissed : Cond.instanceMethod yX4_isMissed ∈ lw_gt := gt_in (List.mem_append_right _ (List.mem_of_getElem? (i := 475) (by decide +kernel))) rfl
theorem wsel_X4_isMissed : Cond.selects yX4_isMissed.cls yX4_isMissed yX4_isMissed ∈ lw_gt := gt_in (List.mem_append_right _ (List.mem_of_getElem? (i := 476) (by decide +kernel))) rfl
theorem wm_X5_101 : Cond.methodLink RX5 101 yX6_isTooWide ∈ lw_gt := gt_in (List.mem_append_right _ (List.mem_of_getElem? (i := 478) (by decide +kernel))) rfl
theorem ck_X6_isTooWide : CkE yX6_isTooWide cX6_isTooWide 2 (some .boolean) 1 := ⟨gt_in (List.mem_append_right _ (List.mem_of_getElem? (i := 481) (by decide +kernel))) rfl, gt_in (List.mem_append_right _ (List.mem_of_getElem? (i := 10) (by decide +kernel))) rfl, by decide +kernel⟩
theorem win_X6_isTooWide : Cond.instanceMethod yX6_isTooWide ∈ lw_gt := gt_in (List.mem_append_right _ (List.mem_of_getElem? (i := 479) (by decide +kernel))) rfl
theorem wsel_X6_isTooWide : Cond.selects yX6_isTooWide.cls yX6_isTooWide yX6_isTooWide ∈ lw_gt := gt_in (List.mem_append_right _ (List.mem_of_getElem? (i := 480) (by decide +kernel))) rfl
theorem wm_X5_104 : Cond.methodLink RX5 104 yX0_frames ∈ lw_gt := gt_in (List.mem_append_right _ (List.mem_of_getElem? (i := 490) (by decide +kernel))) rfl
theorem ck_X0_frames : CkE yX0_frames cX0_frames 1 (some .int) 0 := ⟨gt_in (List.mem_append_right _ (List.mem_of_getElem? (i := 246) (by decide +kernel))) rfl, gt_in (List.mem_append_right _ (List.mem_of_getElem? (i := 6) (by decide +kernel))) rfl, by decide +kernel⟩
theorem win_X0_frames : Cond.instanceMethod yX0_frames ∈ lw_gt := gt_in (List.mem_append_right _ (List.mem_of_getElem? (i := 244) (by decide +kernel))) rfl
theorem wsel_X0_frames : Cond.selects yX0_frames.cls yX0_frames yX0_frames ∈ lw_gt := gt_in (List.mem_append_right _ (List.mem_of_getElem? (i := 245) (by decide +kernel))) rfl
theorem wm_X5_107 : Cond.methodLink RX5 107 yX7_size ∈ lw_gt := gt_in (List.mem_append_right _ (List.mem_of_getElem? (i := 670) (by decide +kernel))) rfl
theorem ck_X7_size : CkE yX7_size cX7_size 1 (some .int) 0 := ⟨gt_in (List.mem_append_right _ (List.mem_of_getElem? (i := 415) (by decide +kernel))) rfl, gt_in (List.mem_append_right _ (List.mem_of_getElem? (i := 9) (by decide +kernel))) rfl, by decide +kernel⟩
theorem win_X7_size : Cond.instanceMethod yX7_size ∈ lw_gt := gt_in (List.mem_append_right _ (List.mem_of_getElem? (i := 413) (by decide +kernel))) rfl
theorem wsel_X7_size : Cond.selects yX7_size.cls yX7_size yX7_size ∈ lw_gt := gt_in (List.mem_append_right _ (List.mem_of_getElem? (i := 414) (by decide +kernel))) rfl
theorem wm_X5_110 : Cond.methodLink RX5 110 yX5_faultsOf ∈ lw_gt := gt_in (List.mem_append_right _ (List.mem_of_getElem? (i := 671) (by decide +kernel))) rfl
theorem ck_X5_faultsOf : CkE yX5_faultsOf cX5_faultsOf 5 (some .int) 1 := ⟨gt_in (List.mem_append_right _ (List.mem_of_getElem? (i := 454) (by decide +kernel))) rfl, gt_in (List.mem_append_right _ (List.mem_of_getElem? (i := 5) (by decide +kernel))) rfl, by decide +kernel⟩
theorem win_X5_faultsOf : Cond.instanceMethod yX5_faultsOf ∈ lw_gt := gt_in (List.mem_append_right _ (List.mem_of_getElem? (i := 452) (by decide +kernel))) rfl
theorem wsel_X5_faultsOf : Cond.selects yX5_faultsOf.cls yX5_faultsOf yX5_faultsOf ∈ lw_gt := gt_in (List.mem_append_right _ (List.mem_of_getElem? (i := 453) (by decide +kernel))) rfl
theorem wf_X6_36 : Cond.fieldLink RX6 36 "CutConformer$Part" "speaker" "I" ∈ lw_gt := gt_in (List.mem_append_right _ (List.mem_of_getElem? (i := 43) (by decide +kernel))) rfl
theorem wm_X6_39 : Cond.methodLink RX6 39 Lib.Math.min.name ∈ lw_gt := gt_in (List.mem_append_right _ (List.mem_of_getElem? (i := 627) (by decide +kernel))) rfl
theorem wst_min : Cond.static Lib.Math.min.name ∈ lw_gt := gt_in (List.mem_append_right _ (List.mem_of_getElem? (i := 34) (by decide +kernel))) rfl
theorem wco_min : Cond.code Lib.Math.min.name Lib.Math.min.code 2 (some .int) ∈ lw_gt := gt_in (List.mem_append_right _ (List.mem_of_getElem? (i := 35) (by decide +kernel))) rfl
theorem wm_X6_45 : Cond.methodLink RX6 45 Lib.Math.max.name ∈ lw_gt := gt_in (List.mem_append_right _ (List.mem_of_getElem? (i := 628) (by decide +kernel))) rfl
theorem wm_X6_48 : Cond.methodLink RX6 48 yX6_length ∈ lw_gt := gt_in (List.mem_append_right _ (List.mem_of_getElem? (i := 629) (by decide +kernel))) rfl
theorem wm_X7_36 : Cond.methodLink RX7 36 yX7_isFull ∈ lw_gt := gt_in (List.mem_append_right _ (List.mem_of_getElem? (i := 394) (by decide +kernel))) rfl
theorem ck_X7_isFull : CkE yX7_isFull cX7_isFull 1 (some .boolean) 0 := ⟨gt_in (List.mem_append_right _ (List.mem_of_getElem? (i := 385) (by decide +kernel))) rfl, gt_in (List.mem_append_right _ (List.mem_of_getElem? (i := 9) (by decide +kernel))) rfl, by decide +kernel⟩
theorem win_X7_isFull : Cond.instanceMethod yX7_isFull ∈ lw_gt := gt_in (List.mem_append_right _ (List.mem_of_getElem? (i := 383) (by decide +kernel))) rfl
theorem wsel_X7_isFull : Cond.selects yX7_isFull.cls yX7_isFull yX7_isFull ∈ lw_gt := gt_in (List.mem_append_right _ (List.mem_of_getElem? (i := 384) (by decide +kernel))) rfl
theorem wf_X7_43 : Cond.fieldLink RX7 43 "CutConformer$Subtitle" "end" "I" ∈ lw_gt := gt_in (List.mem_append_right _ (List.mem_of_getElem? (i := 122) (by decide +kernel))) rfl
theorem wf_X7_46 : Cond.fieldLink RX7 46 "CutConformer$Subtitle" "parts" "I" ∈ lw_gt := gt_in (List.mem_append_right _ (List.mem_of_getElem? (i := 125) (by decide +kernel))) rfl
theorem wf_X7_49 : Cond.fieldLink RX7 49 "CutConformer$Subtitle" "one" "LCutConformer$Part;" ∈ lw_gt := gt_in (List.mem_append_right _ (List.mem_of_getElem? (i := 128) (by decide +kernel))) rfl
theorem wm_X7_53 : Cond.methodLink RX7 53 yX7_settle ∈ lw_gt := gt_in (List.mem_append_right _ (List.mem_of_getElem? (i := 395) (by decide +kernel))) rfl
theorem ck_X7_settle : CkE yX7_settle cX7_settle 4 (some .int) 1 := ⟨gt_in (List.mem_append_right _ (List.mem_of_getElem? (i := 398) (by decide +kernel))) rfl, gt_in (List.mem_append_right _ (List.mem_of_getElem? (i := 9) (by decide +kernel))) rfl, by decide +kernel⟩
theorem win_X7_settle : Cond.instanceMethod yX7_settle ∈ lw_gt := gt_in (List.mem_append_right _ (List.mem_of_getElem? (i := 397) (by decide +kernel))) rfl
theorem wsel_X7_settle : Cond.selects yX7_settle.cls yX7_settle yX7_settle ∈ lw_gt := gt_in (List.mem_append_left _ (List.mem_of_getElem? (i := 2) (by decide +kernel))) rfl
theorem wm_X7_57 : Cond.methodLink RX7 57 yX7_remove ∈ lw_gt := gt_in (List.mem_append_right _ (List.mem_of_getElem? (i := 424) (by decide +kernel))) rfl
theorem ck_X7_remove : CkE yX7_remove cX7_remove 4 none 1 := ⟨gt_in (List.mem_append_right _ (List.mem_of_getElem? (i := 411) (by decide +kernel))) rfl, gt_in (List.mem_append_right _ (List.mem_of_getElem? (i := 9) (by decide +kernel))) rfl, by decide +kernel⟩
theorem win_X7_remove : Cond.instanceMethod yX7_remove ∈ lw_gt := gt_in (List.mem_append_right _ (List.mem_of_getElem? (i := 409) (by decide +kernel))) rfl
theorem wsel_X7_remove : Cond.selects yX7_remove.cls yX7_remove yX7_remove ∈ lw_gt := gt_in (List.mem_append_right _ (List.mem_of_getElem? (i := 410) (by decide +kernel))) rfl
theorem wm_X7_65 : Cond.methodLink RX7 65 yX6_length ∈ lw_gt := gt_in (List.mem_append_right _ (List.mem_of_getElem? (i := 665) (by decide +kernel))) rfl
theorem wm_X7_69 : Cond.methodLink RX7 69 Lib.Math.max.name ∈ lw_gt := gt_in (List.mem_append_right _ (List.mem_of_getElem? (i := 676) (by decide +kernel))) rfl
theorem wf_X8_55 : Cond.fieldLink RX8 55 "CutConformer$Trial" "found" "I" ∈ lw_gt := gt_in (List.mem_append_right _ (List.mem_of_getElem? (i := 188) (by decide +kernel))) rfl
theorem wf_X8_9 : Cond.fieldLink RX8 9 "CutConformer$Trial" "begins" "[I" ∈ lw_gt := gt_in (List.mem_append_right _ (List.mem_of_getElem? (i := 186) (by decide +kernel))) rfl
theorem wf_X8_15 : Cond.fieldLink RX8 15 "CutConformer$Trial" "ends" "[I" ∈ lw_gt := gt_in (List.mem_append_right _ (List.mem_of_getElem? (i := 187) (by decide +kernel))) rfl
theorem wm_X8_83 : Cond.methodLink RX8 83 yX0_size ∈ lw_gt := gt_in (List.mem_append_right _ (List.mem_of_getElem? (i := 606) (by decide +kernel))) rfl
theorem ck_X0_size : CkE yX0_size cX0_size 1 (some .int) 0 := ⟨gt_in (List.mem_append_right _ (List.mem_of_getElem? (i := 242) (by decide +kernel))) rfl, gt_in (List.mem_append_right _ (List.mem_of_getElem? (i := 6) (by decide +kernel))) rfl, by decide +kernel⟩
theorem win_X0_size : Cond.instanceMethod yX0_size ∈ lw_gt := gt_in (List.mem_append_right _ (List.mem_of_getElem? (i := 240) (by decide +kernel))) rfl
theorem wsel_X0_size : Cond.selects yX0_size.cls yX0_size yX0_size ∈ lw_gt := gt_in (List.mem_append_right _ (List.mem_of_getElem? (i := 241) (by decide +kernel))) rfl
theorem wm_X8_86 : Cond.methodLink RX8 86 yX0_firstOf ∈ lw_gt := gt_in (List.mem_append_right _ (List.mem_of_getElem? (i := 607) (by decide +kernel))) rfl
theorem ck_X0_firstOf : CkE yX0_firstOf cX0_firstOf 2 (some .int) 1 := ⟨gt_in (List.mem_append_right _ (List.mem_of_getElem? (i := 309) (by decide +kernel))) rfl, gt_in (List.mem_append_right _ (List.mem_of_getElem? (i := 6) (by decide +kernel))) rfl, by decide +kernel⟩
theorem win_X0_firstOf : Cond.instanceMethod yX0_firstOf ∈ lw_gt := gt_in (List.mem_append_right _ (List.mem_of_getElem? (i := 307) (by decide +kernel))) rfl
theorem wsel_X0_firstOf : Cond.selects yX0_firstOf.cls yX0_firstOf yX0_firstOf ∈ lw_gt := gt_in (List.mem_append_right _ (List.mem_of_getElem? (i := 308) (by decide +kernel))) rfl
theorem wf_X8_90 : Cond.fieldLink RX8 90 "CutConformer$Subtitle" "first" "I" ∈ lw_gt := gt_in (List.mem_append_right _ (List.mem_of_getElem? (i := 116) (by decide +kernel))) rfl
theorem wm_X8_95 : Cond.methodLink RX8 95 Lib.Math.max.name ∈ lw_gt := gt_in (List.mem_append_right _ (List.mem_of_getElem? (i := 608) (by decide +kernel))) rfl
theorem wf_X8_101 : Cond.fieldLink RX8 101 "CutConformer$Subtitle" "end" "I" ∈ lw_gt := gt_in (List.mem_append_right _ (List.mem_of_getElem? (i := 121) (by decide +kernel))) rfl
theorem wm_X8_104 : Cond.methodLink RX8 104 yX0_lengthOf ∈ lw_gt := gt_in (List.mem_append_right _ (List.mem_of_getElem? (i := 609) (by decide +kernel))) rfl
theorem ck_X0_lengthOf : CkE yX0_lengthOf cX0_lengthOf 2 (some .int) 1 := ⟨gt_in (List.mem_append_right _ (List.mem_of_getElem? (i := 313) (by decide +kernel))) rfl, gt_in (List.mem_append_right _ (List.mem_of_getElem? (i := 6) (by decide +kernel))) rfl, by decide +kernel⟩
theorem win_X0_lengthOf : Cond.instanceMethod yX0_lengthOf ∈ lw_gt := gt_in (List.mem_append_right _ (List.mem_of_getElem? (i := 311) (by decide +kernel))) rfl
theorem wsel_X0_lengthOf : Cond.selects yX0_lengthOf.cls yX0_lengthOf yX0_lengthOf ∈ lw_gt := gt_in (List.mem_append_right _ (List.mem_of_getElem? (i := 312) (by decide +kernel))) rfl
theorem wm_X8_107 : Cond.methodLink RX8 107 Lib.Math.min.name ∈ lw_gt := gt_in (List.mem_append_right _ (List.mem_of_getElem? (i := 610) (by decide +kernel))) rfl
theorem wm_X8_110 : Cond.methodLink RX8 110 yX8_put ∈ lw_gt := gt_in (List.mem_append_right _ (List.mem_of_getElem? (i := 611) (by decide +kernel))) rfl
theorem ck_X8_put : CkE yX8_put cX8_put 3 none 2 := ⟨gt_in (List.mem_append_right _ (List.mem_of_getElem? (i := 614) (by decide +kernel))) rfl, gt_in (List.mem_append_right _ (List.mem_of_getElem? (i := 11) (by decide +kernel))) rfl, by decide +kernel⟩
theorem win_X8_put : Cond.instanceMethod yX8_put ∈ lw_gt := gt_in (List.mem_append_right _ (List.mem_of_getElem? (i := 613) (by decide +kernel))) rfl
theorem wsel_X8_put : Cond.selects yX8_put.cls yX8_put yX8_put ∈ lw_gt := gt_in (List.mem_append_left _ (List.mem_of_getElem? (i := 7) (by decide +kernel))) rfl
theorem wf_X8_23 : Cond.fieldLink RX8 23 "CutConformer$Trial" "result" "LCutConformer$State;" ∈ lw_gt := gt_in (List.mem_append_right _ (List.mem_of_getElem? (i := 182) (by decide +kernel))) rfl
theorem wf_X8_58 : Cond.fieldLink RX8 58 "CutConformer$State" "track" "LCutConformer$Track;" ∈ lw_gt := gt_in (List.mem_append_right _ (List.mem_of_getElem? (i := 163) (by decide +kernel))) rfl
theorem wm_X8_62 : Cond.methodLink RX8 62 yX7_empty ∈ lw_gt := gt_in (List.mem_append_right _ (List.mem_of_getElem? (i := 596) (by decide +kernel))) rfl
theorem ck_X7_empty : CkE yX7_empty cX7_empty 1 none 0 := ⟨gt_in (List.mem_append_right _ (List.mem_of_getElem? (i := 599) (by decide +kernel))) rfl, gt_in (List.mem_append_right _ (List.mem_of_getElem? (i := 9) (by decide +kernel))) rfl, by decide +kernel⟩
theorem win_X7_empty : Cond.instanceMethod yX7_empty ∈ lw_gt := gt_in (List.mem_append_right _ (List.mem_of_getElem? (i := 597) (by decide +kernel))) rfl
theorem wsel_X7_empty : Cond.selects yX7_empty.cls yX7_empty yX7_empty ∈ lw_gt := gt_in (List.mem_append_right _ (List.mem_of_getElem? (i := 598) (by decide +kernel))) rfl
theorem wm_X8_67 : Cond.methodLink RX8 67 yX7_size ∈ lw_gt := gt_in (List.mem_append_right _ (List.mem_of_getElem? (i := 600) (by decide +kernel))) rfl
theorem wm_X8_71 : Cond.methodLink RX8 71 yX7_at ∈ lw_gt := gt_in (List.mem_append_right _ (List.mem_of_getElem? (i := 601) (by decide +kernel))) rfl
theorem wf_X8_75 : Cond.fieldLink RX8 75 "CutConformer$State" "cut" "LCutConformer$Cut;" ∈ lw_gt := gt_in (List.mem_append_right _ (List.mem_of_getElem? (i := 155) (by decide +kernel))) rfl
theorem wm_X8_51 : Cond.methodLink RX8 51 yX8_findStretches ∈ lw_gt := gt_in (List.mem_append_right _ (List.mem_of_getElem? (i := 602) (by decide +kernel))) rfl
theorem ck_X8_findStretches : CkE yX8_findStretches cX8_findStretches 8 none 2 := ⟨gt_in (List.mem_append_right _ (List.mem_of_getElem? (i := 605) (by decide +kernel))) rfl, gt_in (List.mem_append_right _ (List.mem_of_getElem? (i := 11) (by decide +kernel))) rfl, by decide +kernel⟩
theorem win_X8_findStretches : Cond.instanceMethod yX8_findStretches ∈ lw_gt := gt_in (List.mem_append_right _ (List.mem_of_getElem? (i := 604) (by decide +kernel))) rfl
theorem wsel_X8_findStretches : Cond.selects yX8_findStretches.cls yX8_findStretches yX8_findStretches ∈ lw_gt := gt_in (List.mem_append_left _ (List.mem_of_getElem? (i := 6) (by decide +kernel))) rfl
theorem wm_X8_79 : Cond.methodLink RX8 79 yX7_insertLike ∈ lw_gt := gt_in (List.mem_append_right _ (List.mem_of_getElem? (i := 615) (by decide +kernel))) rfl
theorem ck_X7_insertLike : CkE yX7_insertLike cX7_insertLike 5 none 3 := ⟨gt_in (List.mem_append_right _ (List.mem_of_getElem? (i := 618) (by decide +kernel))) rfl, gt_in (List.mem_append_right _ (List.mem_of_getElem? (i := 9) (by decide +kernel))) rfl, by decide +kernel⟩
theorem win_X7_insertLike : Cond.instanceMethod yX7_insertLike ∈ lw_gt := gt_in (List.mem_append_right _ (List.mem_of_getElem? (i := 616) (by decide +kernel))) rfl
theorem wsel_X7_insertLike : Cond.selects yX7_insertLike.cls yX7_insertLike yX7_insertLike ∈ lw_gt := gt_in (List.mem_append_right _ (List.mem_of_getElem? (i := 617) (by decide +kernel))) rfl
theorem wf_X8_31 : Cond.fieldLink RX8 31 "CutConformer$Trial" "lost" "I" ∈ lw_gt := gt_in (List.mem_append_right _ (List.mem_of_getElem? (i := 184) (by decide +kernel))) rfl
theorem wm_X8_114 : Cond.methodLink RX8 114 yX6_overlaps ∈ lw_gt := gt_in (List.mem_append_right _ (List.mem_of_getElem? (i := 623) (by decide +kernel))) rfl
theorem ck_X6_overlaps : CkE yX6_overlaps cX6_overlaps 3 (some .boolean) 1 := ⟨gt_in (List.mem_append_right _ (List.mem_of_getElem? (i := 626) (by decide +kernel))) rfl, gt_in (List.mem_append_right _ (List.mem_of_getElem? (i := 10) (by decide +kernel))) rfl, by decide +kernel⟩
theorem win_X6_overlaps : Cond.instanceMethod yX6_overlaps ∈ lw_gt := gt_in (List.mem_append_right _ (List.mem_of_getElem? (i := 624) (by decide +kernel))) rfl
theorem wsel_X6_overlaps : Cond.selects yX6_overlaps.cls yX6_overlaps yX6_overlaps ∈ lw_gt := gt_in (List.mem_append_right _ (List.mem_of_getElem? (i := 625) (by decide +kernel))) rfl
theorem wm_X8_118 : Cond.methodLink RX8 118 yX6_takeIn ∈ lw_gt := gt_in (List.mem_append_right _ (List.mem_of_getElem? (i := 630) (by decide +kernel))) rfl
theorem ck_X6_takeIn : CkE yX6_takeIn cX6_takeIn 2 none 1 := ⟨gt_in (List.mem_append_right _ (List.mem_of_getElem? (i := 633) (by decide +kernel))) rfl, gt_in (List.mem_append_right _ (List.mem_of_getElem? (i := 10) (by decide +kernel))) rfl, by decide +kernel⟩
theorem win_X6_takeIn : Cond.instanceMethod yX6_takeIn ∈ lw_gt := gt_in (List.mem_append_right _ (List.mem_of_getElem? (i := 631) (by decide +kernel))) rfl
theorem wsel_X6_takeIn : Cond.selects yX6_takeIn.cls yX6_takeIn yX6_takeIn ∈ lw_gt := gt_in (List.mem_append_right _ (List.mem_of_getElem? (i := 632) (by decide +kernel))) rfl
theorem wm_X8_122 : Cond.methodLink RX8 122 yX7_remove ∈ lw_gt := gt_in (List.mem_append_right _ (List.mem_of_getElem? (i := 634) (by decide +kernel))) rfl
theorem wm_X8_126 : Cond.methodLink RX8 126 yX0_frames ∈ lw_gt := gt_in (List.mem_append_right _ (List.mem_of_getElem? (i := 639) (by decide +kernel))) rfl
theorem wm_X8_129 : Cond.methodLink RX8 129 yX5_latestEnd ∈ lw_gt := gt_in (List.mem_append_right _ (List.mem_of_getElem? (i := 640) (by decide +kernel))) rfl
theorem wm_X8_132 : Cond.methodLink RX8 132 yX5_readingLength ∈ lw_gt := gt_in (List.mem_append_right _ (List.mem_of_getElem? (i := 641) (by decide +kernel))) rfl
theorem wf_X8_136 : Cond.fieldLink RX8 136 "CutConformer$State" "settings" "LCutConformer$Settings;" ∈ lw_gt := gt_in (List.mem_append_right _ (List.mem_of_getElem? (i := 160) (by decide +kernel))) rfl
theorem wm_X8_140 : Cond.methodLink RX8 140 yX3_at ∈ lw_gt := gt_in (List.mem_append_right _ (List.mem_of_getElem? (i := 646) (by decide +kernel))) rfl
theorem wm_X8_153 : Cond.methodLink RX8 153 yX7_settleAll ∈ lw_gt := gt_in (List.mem_append_right _ (List.mem_of_getElem? (i := 648) (by decide +kernel))) rfl
theorem ck_X7_settleAll : CkE yX7_settleAll cX7_settleAll 2 none 0 := ⟨gt_in (List.mem_append_right _ (List.mem_of_getElem? (i := 651) (by decide +kernel))) rfl, gt_in (List.mem_append_right _ (List.mem_of_getElem? (i := 9) (by decide +kernel))) rfl, by decide +kernel⟩
theorem win_X7_settleAll : Cond.instanceMethod yX7_settleAll ∈ lw_gt := gt_in (List.mem_append_right _ (List.mem_of_getElem? (i := 649) (by decide +kernel))) rfl
theorem wsel_X7_settleAll : Cond.selects yX7_settleAll.cls yX7_settleAll yX7_settleAll ∈ lw_gt := gt_in (List.mem_append_right _ (List.mem_of_getElem? (i := 650) (by decide +kernel))) rfl
theorem wf_X8_144 : Cond.fieldLink RX8 144 "CutConformer$State" "shots" "LCutConformer$Shots;" ∈ lw_gt := gt_in (List.mem_append_right _ (List.mem_of_getElem? (i := 158) (by decide +kernel))) rfl
theorem wm_X8_148 : Cond.methodLink RX8 148 yX4_nearest ∈ lw_gt := gt_in (List.mem_append_right _ (List.mem_of_getElem? (i := 647) (by decide +kernel))) rfl
theorem wm_X8_27 : Cond.methodLink RX8 27 yX5_become ∈ lw_gt := gt_in (List.mem_append_right _ (List.mem_of_getElem? (i := 591) (by decide +kernel))) rfl
theorem wm_X8_48 : Cond.methodLink RX8 48 yX8_keepGaps ∈ lw_gt := gt_in (List.mem_append_right _ (List.mem_of_getElem? (i := 652) (by decide +kernel))) rfl
theorem ck_X8_keepGaps : CkE yX8_keepGaps cX8_keepGaps 4 none 0 := ⟨gt_in (List.mem_append_right _ (List.mem_of_getElem? (i := 655) (by decide +kernel))) rfl, gt_in (List.mem_append_right _ (List.mem_of_getElem? (i := 11) (by decide +kernel))) rfl, by decide +kernel⟩
theorem win_X8_keepGaps : Cond.instanceMethod yX8_keepGaps ∈ lw_gt := gt_in (List.mem_append_right _ (List.mem_of_getElem? (i := 654) (by decide +kernel))) rfl
theorem wsel_X8_keepGaps : Cond.selects yX8_keepGaps.cls yX8_keepGaps yX8_keepGaps ∈ lw_gt := gt_in (List.mem_append_left _ (List.mem_of_getElem? (i := 11) (by decide +kernel))) rfl
theorem wm_X8_45 : Cond.methodLink RX8 45 yX8_snap ∈ lw_gt := gt_in (List.mem_append_right _ (List.mem_of_getElem? (i := 642) (by decide +kernel))) rfl
theorem ck_X8_snap : CkE yX8_snap cX8_snap 5 none 0 := ⟨gt_in (List.mem_append_right _ (List.mem_of_getElem? (i := 645) (by decide +kernel))) rfl, gt_in (List.mem_append_right _ (List.mem_of_getElem? (i := 11) (by decide +kernel))) rfl, by decide +kernel⟩
theorem win_X8_snap : Cond.instanceMethod yX8_snap ∈ lw_gt := gt_in (List.mem_append_right _ (List.mem_of_getElem? (i := 644) (by decide +kernel))) rfl
theorem wsel_X8_snap : Cond.selects yX8_snap.cls yX8_snap yX8_snap ∈ lw_gt := gt_in (List.mem_append_left _ (List.mem_of_getElem? (i := 10) (by decide +kernel))) rfl
theorem wm_X8_42 : Cond.methodLink RX8 42 yX8_stretch ∈ lw_gt := gt_in (List.mem_append_right _ (List.mem_of_getElem? (i := 635) (by decide +kernel))) rfl
theorem ck_X8_stretch : CkE yX8_stretch cX8_stretch 6 none 0 := ⟨gt_in (List.mem_append_right _ (List.mem_of_getElem? (i := 638) (by decide +kernel))) rfl, gt_in (List.mem_append_right _ (List.mem_of_getElem? (i := 11) (by decide +kernel))) rfl, by decide +kernel⟩
theorem win_X8_stretch : Cond.instanceMethod yX8_stretch ∈ lw_gt := gt_in (List.mem_append_right _ (List.mem_of_getElem? (i := 637) (by decide +kernel))) rfl
theorem wsel_X8_stretch : Cond.selects yX8_stretch.cls yX8_stretch yX8_stretch ∈ lw_gt := gt_in (List.mem_append_left _ (List.mem_of_getElem? (i := 9) (by decide +kernel))) rfl
theorem wm_X8_39 : Cond.methodLink RX8 39 yX8_merge ∈ lw_gt := gt_in (List.mem_append_right _ (List.mem_of_getElem? (i := 619) (by decide +kernel))) rfl
theorem ck_X8_merge : CkE yX8_merge cX8_merge 3 none 0 := ⟨gt_in (List.mem_append_right _ (List.mem_of_getElem? (i := 622) (by decide +kernel))) rfl, gt_in (List.mem_append_right _ (List.mem_of_getElem? (i := 11) (by decide +kernel))) rfl, by decide +kernel⟩
theorem win_X8_merge : Cond.instanceMethod yX8_merge ∈ lw_gt := gt_in (List.mem_append_right _ (List.mem_of_getElem? (i := 621) (by decide +kernel))) rfl
theorem wsel_X8_merge : Cond.selects yX8_merge.cls yX8_merge yX8_merge ∈ lw_gt := gt_in (List.mem_append_left _ (List.mem_of_getElem? (i := 8) (by decide +kernel))) rfl
theorem wm_X8_35 : Cond.methodLink RX8 35 yX8_map ∈ lw_gt := gt_in (List.mem_append_right _ (List.mem_of_getElem? (i := 592) (by decide +kernel))) rfl
theorem ck_X8_map : CkE yX8_map cX8_map 6 (some .boolean) 1 := ⟨gt_in (List.mem_append_right _ (List.mem_of_getElem? (i := 595) (by decide +kernel))) rfl, gt_in (List.mem_append_right _ (List.mem_of_getElem? (i := 11) (by decide +kernel))) rfl, by decide +kernel⟩
theorem win_X8_map : Cond.instanceMethod yX8_map ∈ lw_gt := gt_in (List.mem_append_right _ (List.mem_of_getElem? (i := 594) (by decide +kernel))) rfl
theorem wsel_X8_map : Cond.selects yX8_map.cls yX8_map yX8_map ∈ lw_gt := gt_in (List.mem_append_left _ (List.mem_of_getElem? (i := 5) (by decide +kernel))) rfl
theorem wm_X9_41 : Cond.methodLink RX9 41 yX9_isWithin ∈ lw_gt := gt_in (List.mem_append_right _ (List.mem_of_getElem? (i := 236) (by decide +kernel))) rfl
theorem ck_X9_isWithin : CkE yX9_isWithin cX9_isWithin 3 (some .boolean) 3 := ⟨gt_in (List.mem_append_right _ (List.mem_of_getElem? (i := 238) (by decide +kernel))) rfl, gt_in (List.mem_append_right _ (List.mem_of_getElem? (i := 1) (by decide +kernel))) rfl, by decide +kernel⟩
theorem wst_X9_isWithin : Cond.static yX9_isWithin ∈ lw_gt := gt_in (List.mem_append_right _ (List.mem_of_getElem? (i := 237) (by decide +kernel))) rfl
theorem wf_X9_23 : Cond.fieldLink RX9 23 "CutConformer" "now" "LCutConformer$State;" ∈ lw_gt := gt_in (List.mem_append_right _ (List.mem_of_getElem? (i := 218) (by decide +kernel))) rfl
theorem wf_X9_45 : Cond.fieldLink RX9 45 "CutConformer$State" "cut" "LCutConformer$Cut;" ∈ lw_gt := gt_in (List.mem_append_right _ (List.mem_of_getElem? (i := 154) (by decide +kernel))) rfl
theorem wm_X9_49 : Cond.methodLink RX9 49 yX0_size ∈ lw_gt := gt_in (List.mem_append_right _ (List.mem_of_getElem? (i := 239) (by decide +kernel))) rfl
theorem wm_X9_55 : Cond.methodLink RX9 55 yX0_frames ∈ lw_gt := gt_in (List.mem_append_right _ (List.mem_of_getElem? (i := 243) (by decide +kernel))) rfl
theorem wf_X9_37 : Cond.fieldLink RX9 37 "CutConformer" "history" "LCutConformer$History;" ∈ lw_gt := gt_in (List.mem_append_right _ (List.mem_of_getElem? (i := 220) (by decide +kernel))) rfl
theorem wm_X9_58 : Cond.methodLink RX9 58 yX1_record ∈ lw_gt := gt_in (List.mem_append_right _ (List.mem_of_getElem? (i := 251) (by decide +kernel))) rfl
theorem ck_X1_record : CkE yX1_record cX1_record 2 none 1 := ⟨gt_in (List.mem_append_right _ (List.mem_of_getElem? (i := 254) (by decide +kernel))) rfl, gt_in (List.mem_append_right _ (List.mem_of_getElem? (i := 12) (by decide +kernel))) rfl, by decide +kernel⟩
theorem win_X1_record : Cond.instanceMethod yX1_record ∈ lw_gt := gt_in (List.mem_append_right _ (List.mem_of_getElem? (i := 252) (by decide +kernel))) rfl
theorem wsel_X1_record : Cond.selects yX1_record.cls yX1_record yX1_record ∈ lw_gt := gt_in (List.mem_append_right _ (List.mem_of_getElem? (i := 253) (by decide +kernel))) rfl
theorem wm_X9_62 : Cond.methodLink RX9 62 yX0_append ∈ lw_gt := gt_in (List.mem_append_right _ (List.mem_of_getElem? (i := 285) (by decide +kernel))) rfl
theorem ck_X0_append : CkE yX0_append cX0_append 3 none 2 := ⟨gt_in (List.mem_append_right _ (List.mem_of_getElem? (i := 288) (by decide +kernel))) rfl, gt_in (List.mem_append_right _ (List.mem_of_getElem? (i := 6) (by decide +kernel))) rfl, by decide +kernel⟩
theorem win_X0_append : Cond.instanceMethod yX0_append ∈ lw_gt := gt_in (List.mem_append_right _ (List.mem_of_getElem? (i := 286) (by decide +kernel))) rfl
theorem wsel_X0_append : Cond.selects yX0_append.cls yX0_append yX0_append ∈ lw_gt := gt_in (List.mem_append_right _ (List.mem_of_getElem? (i := 287) (by decide +kernel))) rfl
theorem wm_X9_66 : Cond.methodLink RX9 66 yX0_has ∈ lw_gt := gt_in (List.mem_append_right _ (List.mem_of_getElem? (i := 293) (by decide +kernel))) rfl
theorem wm_X9_70 : Cond.methodLink RX9 70 yX0_remove ∈ lw_gt := gt_in (List.mem_append_right _ (List.mem_of_getElem? (i := 297) (by decide +kernel))) rfl
theorem ck_X0_remove : CkE yX0_remove cX0_remove 3 none 1 := ⟨gt_in (List.mem_append_right _ (List.mem_of_getElem? (i := 300) (by decide +kernel))) rfl, gt_in (List.mem_append_right _ (List.mem_of_getElem? (i := 6) (by decide +kernel))) rfl, by decide +kernel⟩
theorem win_X0_remove : Cond.instanceMethod yX0_remove ∈ lw_gt := gt_in (List.mem_append_right _ (List.mem_of_getElem? (i := 298) (by decide +kernel))) rfl
theorem wsel_X0_remove : Cond.selects yX0_remove.cls yX0_remove yX0_remove ∈ lw_gt := gt_in (List.mem_append_right _ (List.mem_of_getElem? (i := 299) (by decide +kernel))) rfl
theorem wm_X9_74 : Cond.methodLink RX9 74 yX0_firstOf ∈ lw_gt := gt_in (List.mem_append_right _ (List.mem_of_getElem? (i := 306) (by decide +kernel))) rfl
theorem wm_X9_78 : Cond.methodLink RX9 78 yX0_lengthOf ∈ lw_gt := gt_in (List.mem_append_right _ (List.mem_of_getElem? (i := 310) (by decide +kernel))) rfl
theorem wm_X9_81 : Cond.methodLink RX9 81 yX0_startOf ∈ lw_gt := gt_in (List.mem_append_right _ (List.mem_of_getElem? (i := 314) (by decide +kernel))) rfl
theorem wf_X9_84 : Cond.fieldLink RX9 84 "CutConformer$State" "shots" "LCutConformer$Shots;" ∈ lw_gt := gt_in (List.mem_append_right _ (List.mem_of_getElem? (i := 157) (by decide +kernel))) rfl
theorem wm_X9_95 : Cond.methodLink RX9 95 yX4_remove ∈ lw_gt := gt_in (List.mem_append_right _ (List.mem_of_getElem? (i := 339) (by decide +kernel))) rfl
theorem ck_X4_remove : CkE yX4_remove cX4_remove 4 none 1 := ⟨gt_in (List.mem_append_right _ (List.mem_of_getElem? (i := 342) (by decide +kernel))) rfl, gt_in (List.mem_append_right _ (List.mem_of_getElem? (i := 7) (by decide +kernel))) rfl, by decide +kernel⟩
theorem win_X4_remove : Cond.instanceMethod yX4_remove ∈ lw_gt := gt_in (List.mem_append_right _ (List.mem_of_getElem? (i := 340) (by decide +kernel))) rfl
theorem wsel_X4_remove : Cond.selects yX4_remove.cls yX4_remove yX4_remove ∈ lw_gt := gt_in (List.mem_append_right _ (List.mem_of_getElem? (i := 341) (by decide +kernel))) rfl
theorem wm_X9_91 : Cond.methodLink RX9 91 yX4_size ∈ lw_gt := gt_in (List.mem_append_right _ (List.mem_of_getElem? (i := 330) (by decide +kernel))) rfl
theorem ck_X4_size : CkE yX4_size cX4_size 1 (some .int) 0 := ⟨gt_in (List.mem_append_right _ (List.mem_of_getElem? (i := 333) (by decide +kernel))) rfl, gt_in (List.mem_append_right _ (List.mem_of_getElem? (i := 7) (by decide +kernel))) rfl, by decide +kernel⟩
theorem win_X4_size : Cond.instanceMethod yX4_size ∈ lw_gt := gt_in (List.mem_append_right _ (List.mem_of_getElem? (i := 331) (by decide +kernel))) rfl
theorem wsel_X4_size : Cond.selects yX4_size.cls yX4_size yX4_size ∈ lw_gt := gt_in (List.mem_append_right _ (List.mem_of_getElem? (i := 332) (by decide +kernel))) rfl
theorem wm_X9_92 : Cond.methodLink RX9 92 yX4_insert ∈ lw_gt := gt_in (List.mem_append_right _ (List.mem_of_getElem? (i := 334) (by decide +kernel))) rfl
theorem ck_X4_insert : CkE yX4_insert cX4_insert 3 none 1 := ⟨gt_in (List.mem_append_right _ (List.mem_of_getElem? (i := 337) (by decide +kernel))) rfl, gt_in (List.mem_append_right _ (List.mem_of_getElem? (i := 7) (by decide +kernel))) rfl, by decide +kernel⟩
theorem win_X4_insert : Cond.instanceMethod yX4_insert ∈ lw_gt := gt_in (List.mem_append_right _ (List.mem_of_getElem? (i := 335) (by decide +kernel))) rfl
theorem wsel_X4_insert : Cond.selects yX4_insert.cls yX4_insert yX4_insert ∈ lw_gt := gt_in (List.mem_append_right _ (List.mem_of_getElem? (i := 336) (by decide +kernel))) rfl
theorem wm_X9_88 : Cond.methodLink RX9 88 yX4_has ∈ lw_gt := gt_in (List.mem_append_right _ (List.mem_of_getElem? (i := 319) (by decide +kernel))) rfl
theorem wm_X9_96 : Cond.methodLink RX9 96 yX4_at ∈ lw_gt := gt_in (List.mem_append_right _ (List.mem_of_getElem? (i := 347) (by decide +kernel))) rfl
theorem ck_X4_at : CkE yX4_at cX4_at 2 (some .int) 1 := ⟨gt_in (List.mem_append_right _ (List.mem_of_getElem? (i := 350) (by decide +kernel))) rfl, gt_in (List.mem_append_right _ (List.mem_of_getElem? (i := 7) (by decide +kernel))) rfl, by decide +kernel⟩
theorem win_X4_at : Cond.instanceMethod yX4_at ∈ lw_gt := gt_in (List.mem_append_right _ (List.mem_of_getElem? (i := 348) (by decide +kernel))) rfl
theorem wsel_X4_at : Cond.selects yX4_at.cls yX4_at yX4_at ∈ lw_gt := gt_in (List.mem_append_right _ (List.mem_of_getElem? (i := 349) (by decide +kernel))) rfl
theorem wm_X9_99 : Cond.methodLink RX9 99 yX0_newFrame ∈ lw_gt := gt_in (List.mem_append_right _ (List.mem_of_getElem? (i := 355) (by decide +kernel))) rfl
theorem ck_X0_newFrame : CkE yX0_newFrame cX0_newFrame 7 (some .int) 2 := ⟨gt_in (List.mem_append_right _ (List.mem_of_getElem? (i := 358) (by decide +kernel))) rfl, gt_in (List.mem_append_right _ (List.mem_of_getElem? (i := 6) (by decide +kernel))) rfl, by decide +kernel⟩
theorem win_X0_newFrame : Cond.instanceMethod yX0_newFrame ∈ lw_gt := gt_in (List.mem_append_right _ (List.mem_of_getElem? (i := 356) (by decide +kernel))) rfl
theorem wsel_X0_newFrame : Cond.selects yX0_newFrame.cls yX0_newFrame yX0_newFrame ∈ lw_gt := gt_in (List.mem_append_right _ (List.mem_of_getElem? (i := 357) (by decide +kernel))) rfl
theorem wm_X9_103 : Cond.methodLink RX9 103 yX0_oldFrame ∈ lw_gt := gt_in (List.mem_append_right _ (List.mem_of_getElem? (i := 363) (by decide +kernel))) rfl
theorem ck_X0_oldFrame : CkE yX0_oldFrame cX0_oldFrame 4 (some .int) 1 := ⟨gt_in (List.mem_append_right _ (List.mem_of_getElem? (i := 366) (by decide +kernel))) rfl, gt_in (List.mem_append_right _ (List.mem_of_getElem? (i := 6) (by decide +kernel))) rfl, by decide +kernel⟩
theorem win_X0_oldFrame : Cond.instanceMethod yX0_oldFrame ∈ lw_gt := gt_in (List.mem_append_right _ (List.mem_of_getElem? (i := 364) (by decide +kernel))) rfl
theorem wsel_X0_oldFrame : Cond.selects yX0_oldFrame.cls yX0_oldFrame yX0_oldFrame ∈ lw_gt := gt_in (List.mem_append_right _ (List.mem_of_getElem? (i := 365) (by decide +kernel))) rfl
theorem wf_X9_106 : Cond.fieldLink RX9 106 "CutConformer" "typedBytes" "I" ∈ lw_gt := gt_in (List.mem_append_right _ (List.mem_of_getElem? (i := 217) (by decide +kernel))) rfl
theorem wf_X9_9 : Cond.fieldLink RX9 9 "CutConformer" "typed" "[B" ∈ lw_gt := gt_in (List.mem_append_right _ (List.mem_of_getElem? (i := 216) (by decide +kernel))) rfl
theorem wm_X9_110 : Cond.methodLink RX9 110 yX9_isTime ∈ lw_gt := gt_in (List.mem_append_right _ (List.mem_of_getElem? (i := 379) (by decide +kernel))) rfl
theorem ck_X9_isTime : CkE yX9_isTime cX9_isTime 2 (some .boolean) 2 := ⟨gt_in (List.mem_append_right _ (List.mem_of_getElem? (i := 381) (by decide +kernel))) rfl, gt_in (List.mem_append_right _ (List.mem_of_getElem? (i := 1) (by decide +kernel))) rfl, by decide +kernel⟩
theorem wst_X9_isTime : Cond.static yX9_isTime ∈ lw_gt := gt_in (List.mem_append_right _ (List.mem_of_getElem? (i := 380) (by decide +kernel))) rfl
theorem wf_X9_114 : Cond.fieldLink RX9 114 "CutConformer$State" "track" "LCutConformer$Track;" ∈ lw_gt := gt_in (List.mem_append_right _ (List.mem_of_getElem? (i := 164) (by decide +kernel))) rfl
theorem wm_X9_118 : Cond.methodLink RX9 118 yX7_isFull ∈ lw_gt := gt_in (List.mem_append_right _ (List.mem_of_getElem? (i := 382) (by decide +kernel))) rfl
theorem wm_X9_124 : Cond.methodLink RX9 124 yX9_firstWrongBlank ∈ lw_gt := gt_in (List.mem_append_right _ (List.mem_of_getElem? (i := 386) (by decide +kernel))) rfl
theorem ck_X9_firstWrongBlank : CkE yX9_firstWrongBlank cX9_firstWrongBlank 4 (some .int) 0 := ⟨gt_in (List.mem_append_right _ (List.mem_of_getElem? (i := 389) (by decide +kernel))) rfl, gt_in (List.mem_append_right _ (List.mem_of_getElem? (i := 1) (by decide +kernel))) rfl, by decide +kernel⟩
theorem win_X9_firstWrongBlank : Cond.instanceMethod yX9_firstWrongBlank ∈ lw_gt := gt_in (List.mem_append_right _ (List.mem_of_getElem? (i := 388) (by decide +kernel))) rfl
theorem wsel_X9_firstWrongBlank : Cond.selects yX9_firstWrongBlank.cls yX9_firstWrongBlank yX9_firstWrongBlank ∈ lw_gt := gt_in (List.mem_append_left _ (List.mem_of_getElem? (i := 1) (by decide +kernel))) rfl
theorem wm_X9_130 : Cond.methodLink RX9 130 yX7_has ∈ lw_gt := gt_in (List.mem_append_right _ (List.mem_of_getElem? (i := 407) (by decide +kernel))) rfl
theorem wm_X9_131 : Cond.methodLink RX9 131 yX7_remove ∈ lw_gt := gt_in (List.mem_append_right _ (List.mem_of_getElem? (i := 408) (by decide +kernel))) rfl
theorem wm_X9_132 : Cond.methodLink RX9 132 yX7_size ∈ lw_gt := gt_in (List.mem_append_right _ (List.mem_of_getElem? (i := 412) (by decide +kernel))) rfl
theorem wm_X9_133 : Cond.methodLink RX9 133 yX7_retime ∈ lw_gt := gt_in (List.mem_append_right _ (List.mem_of_getElem? (i := 420) (by decide +kernel))) rfl
theorem ck_X7_retime : CkE yX7_retime cX7_retime 4 (some .int) 3 := ⟨gt_in (List.mem_append_right _ (List.mem_of_getElem? (i := 423) (by decide +kernel))) rfl, gt_in (List.mem_append_right _ (List.mem_of_getElem? (i := 9) (by decide +kernel))) rfl, by decide +kernel⟩
theorem win_X7_retime : Cond.instanceMethod yX7_retime ∈ lw_gt := gt_in (List.mem_append_right _ (List.mem_of_getElem? (i := 421) (by decide +kernel))) rfl
theorem wsel_X7_retime : Cond.selects yX7_retime.cls yX7_retime yX7_retime ∈ lw_gt := gt_in (List.mem_append_right _ (List.mem_of_getElem? (i := 422) (by decide +kernel))) rfl
theorem wm_X9_137 : Cond.methodLink RX9 137 yX7_at ∈ lw_gt := gt_in (List.mem_append_right _ (List.mem_of_getElem? (i := 429) (by decide +kernel))) rfl
theorem wf_X9_140 : Cond.fieldLink RX9 140 "CutConformer$Subtitle" "first" "I" ∈ lw_gt := gt_in (List.mem_append_right _ (List.mem_of_getElem? (i := 118) (by decide +kernel))) rfl
theorem wf_X9_145 : Cond.fieldLink RX9 145 "CutConformer$Subtitle" "end" "I" ∈ lw_gt := gt_in (List.mem_append_right _ (List.mem_of_getElem? (i := 123) (by decide +kernel))) rfl
theorem wf_X9_148 : Cond.fieldLink RX9 148 "CutConformer$Subtitle" "parts" "I" ∈ lw_gt := gt_in (List.mem_append_right _ (List.mem_of_getElem? (i := 126) (by decide +kernel))) rfl
theorem wm_X9_151 : Cond.methodLink RX9 151 yX6_characters ∈ lw_gt := gt_in (List.mem_append_right _ (List.mem_of_getElem? (i := 433) (by decide +kernel))) rfl
theorem wm_X9_154 : Cond.methodLink RX9 154 yX5_readingLength ∈ lw_gt := gt_in (List.mem_append_right _ (List.mem_of_getElem? (i := 441) (by decide +kernel))) rfl
theorem wm_X9_158 : Cond.methodLink RX9 158 yX5_faultsOf ∈ lw_gt := gt_in (List.mem_append_right _ (List.mem_of_getElem? (i := 451) (by decide +kernel))) rfl
theorem wm_X9_161 : Cond.methodLink RX9 161 yX7_next ∈ lw_gt := gt_in (List.mem_append_right _ (List.mem_of_getElem? (i := 491) (by decide +kernel))) rfl
theorem wf_X9_168 : Cond.fieldLink RX9 168 "CutConformer$Subtitle" "two" "LCutConformer$Part;" ∈ lw_gt := gt_in (List.mem_append_right _ (List.mem_of_getElem? (i := 131) (by decide +kernel))) rfl
theorem wf_X9_180 : Cond.fieldLink RX9 180 "CutConformer$State" "settings" "LCutConformer$Settings;" ∈ lw_gt := gt_in (List.mem_append_right _ (List.mem_of_getElem? (i := 161) (by decide +kernel))) rfl
theorem wm_X9_184 : Cond.methodLink RX9 184 yX3_at ∈ lw_gt := gt_in (List.mem_append_right _ (List.mem_of_getElem? (i := 501) (by decide +kernel))) rfl
theorem wm_X9_187 : Cond.methodLink RX9 187 yX2_brokenAt ∈ lw_gt := gt_in (List.mem_append_right _ (List.mem_of_getElem? (i := 502) (by decide +kernel))) rfl
theorem ck_X2_brokenAt : CkE yX2_brokenAt cX2_brokenAt 8 (some .int) 1 := ⟨gt_in (List.mem_append_right _ (List.mem_of_getElem? (i := 505) (by decide +kernel))) rfl, gt_in (List.mem_append_right _ (List.mem_of_getElem? (i := 2) (by decide +kernel))) rfl, by decide +kernel⟩
theorem win_X2_brokenAt : Cond.instanceMethod yX2_brokenAt ∈ lw_gt := gt_in (List.mem_append_right _ (List.mem_of_getElem? (i := 503) (by decide +kernel))) rfl
theorem wsel_X2_brokenAt : Cond.selects yX2_brokenAt.cls yX2_brokenAt yX2_brokenAt ∈ lw_gt := gt_in (List.mem_append_right _ (List.mem_of_getElem? (i := 504) (by decide +kernel))) rfl
theorem wm_X9_190 : Cond.methodLink RX9 190 yX2_rankOf ∈ lw_gt := gt_in (List.mem_append_right _ (List.mem_of_getElem? (i := 566) (by decide +kernel))) rfl
theorem wm_X9_177 : Cond.methodLink RX9 177 yX2_bytes ∈ lw_gt := gt_in (List.mem_append_right _ (List.mem_of_getElem? (i := 500) (by decide +kernel))) rfl
theorem wf_X9_174 : Cond.fieldLink RX9 174 "CutConformer$Part" "speaker" "I" ∈ lw_gt := gt_in (List.mem_append_right _ (List.mem_of_getElem? (i := 44) (by decide +kernel))) rfl
theorem wm_X9_171 : Cond.methodLink RX9 171 yX2_byteAt ∈ lw_gt := gt_in (List.mem_append_right _ (List.mem_of_getElem? (i := 496) (by decide +kernel))) rfl
theorem wf_X9_164 : Cond.fieldLink RX9 164 "CutConformer$Subtitle" "one" "LCutConformer$Part;" ∈ lw_gt := gt_in (List.mem_append_right _ (List.mem_of_getElem? (i := 129) (by decide +kernel))) rfl
theorem wm_X9_193 : Cond.methodLink RX9 193 yX3_takes ∈ lw_gt := gt_in (List.mem_append_right _ (List.mem_of_getElem? (i := 571) (by decide +kernel))) rfl
theorem ck_X3_takes : CkE yX3_takes cX3_takes 3 (some .boolean) 2 := ⟨gt_in (List.mem_append_right _ (List.mem_of_getElem? (i := 574) (by decide +kernel))) rfl, gt_in (List.mem_append_right _ (List.mem_of_getElem? (i := 8) (by decide +kernel))) rfl, by decide +kernel⟩
theorem win_X3_takes : Cond.instanceMethod yX3_takes ∈ lw_gt := gt_in (List.mem_append_right _ (List.mem_of_getElem? (i := 572) (by decide +kernel))) rfl
theorem wsel_X3_takes : Cond.selects yX3_takes.cls yX3_takes yX3_takes ∈ lw_gt := gt_in (List.mem_append_right _ (List.mem_of_getElem? (i := 573) (by decide +kernel))) rfl
theorem wm_X9_196 : Cond.methodLink RX9 196 yX3_put ∈ lw_gt := gt_in (List.mem_append_right _ (List.mem_of_getElem? (i := 579) (by decide +kernel))) rfl
theorem ck_X3_put : CkE yX3_put cX3_put 3 none 2 := ⟨gt_in (List.mem_append_right _ (List.mem_of_getElem? (i := 582) (by decide +kernel))) rfl, gt_in (List.mem_append_right _ (List.mem_of_getElem? (i := 8) (by decide +kernel))) rfl, by decide +kernel⟩
theorem win_X3_put : Cond.instanceMethod yX3_put ∈ lw_gt := gt_in (List.mem_append_right _ (List.mem_of_getElem? (i := 580) (by decide +kernel))) rfl
theorem wsel_X3_put : Cond.selects yX3_put.cls yX3_put yX3_put ∈ lw_gt := gt_in (List.mem_append_right _ (List.mem_of_getElem? (i := 581) (by decide +kernel))) rfl
theorem wf_X9_30 : Cond.fieldLink RX9 30 "CutConformer" "trial" "LCutConformer$Trial;" ∈ lw_gt := gt_in (List.mem_append_right _ (List.mem_of_getElem? (i := 219) (by decide +kernel))) rfl
theorem wm_X9_199 : Cond.methodLink RX9 199 yX8_carryOut ∈ lw_gt := gt_in (List.mem_append_right _ (List.mem_of_getElem? (i := 587) (by decide +kernel))) rfl
theorem ck_X8_carryOut : CkE yX8_carryOut cX8_carryOut 3 (some .boolean) 2 := ⟨gt_in (List.mem_append_right _ (List.mem_of_getElem? (i := 590) (by decide +kernel))) rfl, gt_in (List.mem_append_right _ (List.mem_of_getElem? (i := 11) (by decide +kernel))) rfl, by decide +kernel⟩
theorem win_X8_carryOut : Cond.instanceMethod yX8_carryOut ∈ lw_gt := gt_in (List.mem_append_right _ (List.mem_of_getElem? (i := 588) (by decide +kernel))) rfl
theorem wsel_X8_carryOut : Cond.selects yX8_carryOut.cls yX8_carryOut yX8_carryOut ∈ lw_gt := gt_in (List.mem_append_right _ (List.mem_of_getElem? (i := 589) (by decide +kernel))) rfl
theorem wf_X9_203 : Cond.fieldLink RX9 203 "CutConformer$Trial" "result" "LCutConformer$State;" ∈ lw_gt := gt_in (List.mem_append_right _ (List.mem_of_getElem? (i := 183) (by decide +kernel))) rfl
theorem wm_X9_206 : Cond.methodLink RX9 206 yX5_become ∈ lw_gt := gt_in (List.mem_append_right _ (List.mem_of_getElem? (i := 656) (by decide +kernel))) rfl
theorem wf_X9_218 : Cond.fieldLink RX9 218 "CutConformer$Trial" "lost" "I" ∈ lw_gt := gt_in (List.mem_append_right _ (List.mem_of_getElem? (i := 185) (by decide +kernel))) rfl
theorem wm_X9_209 : Cond.methodLink RX9 209 yX7_allLengths ∈ lw_gt := gt_in (List.mem_append_right _ (List.mem_of_getElem? (i := 661) (by decide +kernel))) rfl
theorem ck_X7_allLengths : CkE yX7_allLengths cX7_allLengths 3 (some .int) 0 := ⟨gt_in (List.mem_append_right _ (List.mem_of_getElem? (i := 664) (by decide +kernel))) rfl, gt_in (List.mem_append_right _ (List.mem_of_getElem? (i := 9) (by decide +kernel))) rfl, by decide +kernel⟩
theorem win_X7_allLengths : Cond.instanceMethod yX7_allLengths ∈ lw_gt := gt_in (List.mem_append_right _ (List.mem_of_getElem? (i := 662) (by decide +kernel))) rfl
theorem wsel_X7_allLengths : Cond.selects yX7_allLengths.cls yX7_allLengths yX7_allLengths ∈ lw_gt := gt_in (List.mem_append_right _ (List.mem_of_getElem? (i := 663) (by decide +kernel))) rfl
theorem wm_X9_212 : Cond.methodLink RX9 212 yX5_countFaulty ∈ lw_gt := gt_in (List.mem_append_right _ (List.mem_of_getElem? (i := 666) (by decide +kernel))) rfl
theorem ck_X5_countFaulty : CkE yX5_countFaulty cX5_countFaulty 5 (some .int) 1 := ⟨gt_in (List.mem_append_right _ (List.mem_of_getElem? (i := 669) (by decide +kernel))) rfl, gt_in (List.mem_append_right _ (List.mem_of_getElem? (i := 5) (by decide +kernel))) rfl, by decide +kernel⟩
theorem win_X5_countFaulty : Cond.instanceMethod yX5_countFaulty ∈ lw_gt := gt_in (List.mem_append_right _ (List.mem_of_getElem? (i := 667) (by decide +kernel))) rfl
theorem wsel_X5_countFaulty : Cond.selects yX5_countFaulty.cls yX5_countFaulty yX5_countFaulty ∈ lw_gt := gt_in (List.mem_append_right _ (List.mem_of_getElem? (i := 668) (by decide +kernel))) rfl
theorem wm_X9_215 : Cond.methodLink RX9 215 yX7_greatestEnd ∈ lw_gt := gt_in (List.mem_append_right _ (List.mem_of_getElem? (i := 672) (by decide +kernel))) rfl
theorem ck_X7_greatestEnd : CkE yX7_greatestEnd cX7_greatestEnd 3 (some .int) 0 := ⟨gt_in (List.mem_append_right _ (List.mem_of_getElem? (i := 675) (by decide +kernel))) rfl, gt_in (List.mem_append_right _ (List.mem_of_getElem? (i := 9) (by decide +kernel))) rfl, by decide +kernel⟩
theorem win_X7_greatestEnd : Cond.instanceMethod yX7_greatestEnd ∈ lw_gt := gt_in (List.mem_append_right _ (List.mem_of_getElem? (i := 673) (by decide +kernel))) rfl
theorem wsel_X7_greatestEnd : Cond.selects yX7_greatestEnd.cls yX7_greatestEnd yX7_greatestEnd ∈ lw_gt := gt_in (List.mem_append_right _ (List.mem_of_getElem? (i := 674) (by decide +kernel))) rfl
theorem wm_X9_221 : Cond.methodLink RX9 221 yX8_countStretches ∈ lw_gt := gt_in (List.mem_append_right _ (List.mem_of_getElem? (i := 681) (by decide +kernel))) rfl
theorem ck_X8_countStretches : CkE yX8_countStretches cX8_countStretches 3 (some .int) 2 := ⟨gt_in (List.mem_append_right _ (List.mem_of_getElem? (i := 684) (by decide +kernel))) rfl, gt_in (List.mem_append_right _ (List.mem_of_getElem? (i := 11) (by decide +kernel))) rfl, by decide +kernel⟩
theorem win_X8_countStretches : Cond.instanceMethod yX8_countStretches ∈ lw_gt := gt_in (List.mem_append_right _ (List.mem_of_getElem? (i := 682) (by decide +kernel))) rfl
theorem wsel_X8_countStretches : Cond.selects yX8_countStretches.cls yX8_countStretches yX8_countStretches ∈ lw_gt := gt_in (List.mem_append_right _ (List.mem_of_getElem? (i := 683) (by decide +kernel))) rfl
theorem wm_X9_225 : Cond.methodLink RX9 225 yX7_shownAt ∈ lw_gt := gt_in (List.mem_append_right _ (List.mem_of_getElem? (i := 689) (by decide +kernel))) rfl
theorem ck_X7_shownAt : CkE yX7_shownAt cX7_shownAt 4 (some .int) 1 := ⟨gt_in (List.mem_append_right _ (List.mem_of_getElem? (i := 692) (by decide +kernel))) rfl, gt_in (List.mem_append_right _ (List.mem_of_getElem? (i := 9) (by decide +kernel))) rfl, by decide +kernel⟩
theorem win_X7_shownAt : Cond.instanceMethod yX7_shownAt ∈ lw_gt := gt_in (List.mem_append_right _ (List.mem_of_getElem? (i := 690) (by decide +kernel))) rfl
theorem wsel_X7_shownAt : Cond.selects yX7_shownAt.cls yX7_shownAt yX7_shownAt ∈ lw_gt := gt_in (List.mem_append_right _ (List.mem_of_getElem? (i := 691) (by decide +kernel))) rfl
theorem wm_X9_228 : Cond.methodLink RX9 228 yJ6_bitCount_0f7a4 ∈ lw_gt := gt_in (List.mem_append_right _ (List.mem_of_getElem? (i := 697) (by decide +kernel))) rfl
theorem wm_X9_233 : Cond.methodLink RX9 233 yX7_countPairs ∈ lw_gt := gt_in (List.mem_append_right _ (List.mem_of_getElem? (i := 707) (by decide +kernel))) rfl
theorem ck_X7_countPairs : CkE yX7_countPairs cX7_countPairs 3 (some .int) 0 := ⟨gt_in (List.mem_append_right _ (List.mem_of_getElem? (i := 710) (by decide +kernel))) rfl, gt_in (List.mem_append_right _ (List.mem_of_getElem? (i := 9) (by decide +kernel))) rfl, by decide +kernel⟩
theorem win_X7_countPairs : Cond.instanceMethod yX7_countPairs ∈ lw_gt := gt_in (List.mem_append_right _ (List.mem_of_getElem? (i := 708) (by decide +kernel))) rfl
theorem wsel_X7_countPairs : Cond.selects yX7_countPairs.cls yX7_countPairs yX7_countPairs ∈ lw_gt := gt_in (List.mem_append_right _ (List.mem_of_getElem? (i := 709) (by decide +kernel))) rfl
theorem wm_X9_236 : Cond.methodLink RX9 236 yX1_size ∈ lw_gt := gt_in (List.mem_append_right _ (List.mem_of_getElem? (i := 711) (by decide +kernel))) rfl
theorem ck_X1_size : CkE yX1_size cX1_size 1 (some .int) 0 := ⟨gt_in (List.mem_append_right _ (List.mem_of_getElem? (i := 714) (by decide +kernel))) rfl, gt_in (List.mem_append_right _ (List.mem_of_getElem? (i := 12) (by decide +kernel))) rfl, by decide +kernel⟩
theorem win_X1_size : Cond.instanceMethod yX1_size ∈ lw_gt := gt_in (List.mem_append_right _ (List.mem_of_getElem? (i := 712) (by decide +kernel))) rfl
theorem wsel_X1_size : Cond.selects yX1_size.cls yX1_size yX1_size ∈ lw_gt := gt_in (List.mem_append_right _ (List.mem_of_getElem? (i := 713) (by decide +kernel))) rfl
theorem wm_X9_237 : Cond.methodLink RX9 237 yX1_restore ∈ lw_gt := gt_in (List.mem_append_right _ (List.mem_of_getElem? (i := 719) (by decide +kernel))) rfl
theorem ck_X1_restore : CkE yX1_restore cX1_restore 2 none 1 := ⟨gt_in (List.mem_append_right _ (List.mem_of_getElem? (i := 722) (by decide +kernel))) rfl, gt_in (List.mem_append_right _ (List.mem_of_getElem? (i := 12) (by decide +kernel))) rfl, by decide +kernel⟩
theorem win_X1_restore : Cond.instanceMethod yX1_restore ∈ lw_gt := gt_in (List.mem_append_right _ (List.mem_of_getElem? (i := 720) (by decide +kernel))) rfl
theorem wsel_X1_restore : Cond.selects yX1_restore.cls yX1_restore yX1_restore ∈ lw_gt := gt_in (List.mem_append_right _ (List.mem_of_getElem? (i := 721) (by decide +kernel))) rfl
theorem wc_X9_242 : Cond.constantLong RX9 242 (jL 31) ∈ lw_gt := gt_in (List.mem_append_right _ (List.mem_of_getElem? (i := 728) (by decide +kernel))) rfl
theorem wm_X9_266 : Cond.methodLink RX9 266 yX9_stretches ∈ lw_gt := gt_in (List.mem_append_right _ (List.mem_of_getElem? (i := 737) (by decide +kernel))) rfl
theorem ck_X9_stretches : CkE yX9_stretches cX9_stretches 2 (some .int) 1 := ⟨gt_in (List.mem_append_right _ (List.mem_of_getElem? (i := 680) (by decide +kernel))) rfl, gt_in (List.mem_append_right _ (List.mem_of_getElem? (i := 1) (by decide +kernel))) rfl, by decide +kernel⟩
theorem win_X9_stretches : Cond.instanceMethod yX9_stretches ∈ lw_gt := gt_in (List.mem_append_right _ (List.mem_of_getElem? (i := 678) (by decide +kernel))) rfl
theorem wsel_X9_stretches : Cond.selects yX9_stretches.cls yX9_stretches yX9_stretches ∈ lw_gt := gt_in (List.mem_append_right _ (List.mem_of_getElem? (i := 679) (by decide +kernel))) rfl
theorem wm_X9_263 : Cond.methodLink RX9 263 yX9_subtitle ∈ lw_gt := gt_in (List.mem_append_right _ (List.mem_of_getElem? (i := 736) (by decide +kernel))) rfl
theorem ck_X9_subtitle : CkE yX9_subtitle cX9_subtitle 4 (some .int) 2 := ⟨gt_in (List.mem_append_right _ (List.mem_of_getElem? (i := 428) (by decide +kernel))) rfl, gt_in (List.mem_append_right _ (List.mem_of_getElem? (i := 1) (by decide +kernel))) rfl, by decide +kernel⟩
theorem win_X9_subtitle : Cond.instanceMethod yX9_subtitle ∈ lw_gt := gt_in (List.mem_append_right _ (List.mem_of_getElem? (i := 426) (by decide +kernel))) rfl
theorem wsel_X9_subtitle : Cond.selects yX9_subtitle.cls yX9_subtitle yX9_subtitle ∈ lw_gt := gt_in (List.mem_append_right _ (List.mem_of_getElem? (i := 427) (by decide +kernel))) rfl
theorem wm_X9_269 : Cond.methodLink RX9 269 yX9_part ∈ lw_gt := gt_in (List.mem_append_right _ (List.mem_of_getElem? (i := 738) (by decide +kernel))) rfl
theorem ck_X9_part : CkE yX9_part cX9_part 7 (some .int) 3 := ⟨gt_in (List.mem_append_right _ (List.mem_of_getElem? (i := 495) (by decide +kernel))) rfl, gt_in (List.mem_append_right _ (List.mem_of_getElem? (i := 1) (by decide +kernel))) rfl, by decide +kernel⟩
theorem win_X9_part : Cond.instanceMethod yX9_part ∈ lw_gt := gt_in (List.mem_append_right _ (List.mem_of_getElem? (i := 493) (by decide +kernel))) rfl
theorem wsel_X9_part : Cond.selects yX9_part.cls yX9_part yX9_part ∈ lw_gt := gt_in (List.mem_append_right _ (List.mem_of_getElem? (i := 494) (by decide +kernel))) rfl
theorem wc_X9_240 : Cond.constantLong RX9 240 (jL 18771) ∈ lw_gt := gt_in (List.mem_append_right _ (List.mem_of_getElem? (i := 727) (by decide +kernel))) rfl
theorem wm_X9_257 : Cond.methodLink RX9 257 yX9_faults ∈ lw_gt := gt_in (List.mem_append_right _ (List.mem_of_getElem? (i := 739) (by decide +kernel))) rfl
theorem ck_X9_faults : CkE yX9_faults cX9_faults 2 (some .int) 1 := ⟨gt_in (List.mem_append_right _ (List.mem_of_getElem? (i := 696) (by decide +kernel))) rfl, gt_in (List.mem_append_right _ (List.mem_of_getElem? (i := 1) (by decide +kernel))) rfl, by decide +kernel⟩
theorem win_X9_faults : Cond.instanceMethod yX9_faults ∈ lw_gt := gt_in (List.mem_append_right _ (List.mem_of_getElem? (i := 694) (by decide +kernel))) rfl
theorem wsel_X9_faults : Cond.selects yX9_faults.cls yX9_faults yX9_faults ∈ lw_gt := gt_in (List.mem_append_right _ (List.mem_of_getElem? (i := 695) (by decide +kernel))) rfl
theorem wm_X9_260 : Cond.methodLink RX9 260 yX9_ifConform ∈ lw_gt := gt_in (List.mem_append_right _ (List.mem_of_getElem? (i := 740) (by decide +kernel))) rfl
theorem ck_X9_ifConform : CkE yX9_ifConform cX9_ifConform 3 (some .int) 2 := ⟨gt_in (List.mem_append_right _ (List.mem_of_getElem? (i := 660) (by decide +kernel))) rfl, gt_in (List.mem_append_right _ (List.mem_of_getElem? (i := 1) (by decide +kernel))) rfl, by decide +kernel⟩
theorem win_X9_ifConform : Cond.instanceMethod yX9_ifConform ∈ lw_gt := gt_in (List.mem_append_right _ (List.mem_of_getElem? (i := 658) (by decide +kernel))) rfl
theorem wsel_X9_ifConform : Cond.selects yX9_ifConform.cls yX9_ifConform yX9_ifConform ∈ lw_gt := gt_in (List.mem_append_right _ (List.mem_of_getElem? (i := 659) (by decide +kernel))) rfl
theorem wm_X9_253 : Cond.methodLink RX9 253 yX9_hashSubtitle ∈ lw_gt := gt_in (List.mem_append_right _ (List.mem_of_getElem? (i := 732) (by decide +kernel))) rfl
theorem ck_X9_hashSubtitle : CkE yX9_hashSubtitle cX9_hashSubtitle 10 (some .long) 2 := ⟨gt_in (List.mem_append_right _ (List.mem_of_getElem? (i := 735) (by decide +kernel))) rfl, gt_in (List.mem_append_right _ (List.mem_of_getElem? (i := 1) (by decide +kernel))) rfl, by decide +kernel⟩
theorem win_X9_hashSubtitle : Cond.instanceMethod yX9_hashSubtitle ∈ lw_gt := gt_in (List.mem_append_right _ (List.mem_of_getElem? (i := 734) (by decide +kernel))) rfl
theorem wsel_X9_hashSubtitle : Cond.selects yX9_hashSubtitle.cls yX9_hashSubtitle yX9_hashSubtitle ∈ lw_gt := gt_in (List.mem_append_left _ (List.mem_of_getElem? (i := 12) (by decide +kernel))) rfl
theorem wm_X9_250 : Cond.methodLink RX9 250 yX9_shotAt ∈ lw_gt := gt_in (List.mem_append_right _ (List.mem_of_getElem? (i := 731) (by decide +kernel))) rfl
theorem ck_X9_shotAt : CkE yX9_shotAt cX9_shotAt 2 (some .int) 1 := ⟨gt_in (List.mem_append_right _ (List.mem_of_getElem? (i := 346) (by decide +kernel))) rfl, gt_in (List.mem_append_right _ (List.mem_of_getElem? (i := 1) (by decide +kernel))) rfl, by decide +kernel⟩
theorem win_X9_shotAt : Cond.instanceMethod yX9_shotAt ∈ lw_gt := gt_in (List.mem_append_right _ (List.mem_of_getElem? (i := 344) (by decide +kernel))) rfl
theorem wsel_X9_shotAt : Cond.selects yX9_shotAt.cls yX9_shotAt yX9_shotAt ∈ lw_gt := gt_in (List.mem_append_right _ (List.mem_of_getElem? (i := 345) (by decide +kernel))) rfl
theorem wm_X9_247 : Cond.methodLink RX9 247 yX9_pieceAt ∈ lw_gt := gt_in (List.mem_append_right _ (List.mem_of_getElem? (i := 730) (by decide +kernel))) rfl
theorem ck_X9_pieceAt : CkE yX9_pieceAt cX9_pieceAt 3 (some .int) 2 := ⟨gt_in (List.mem_append_right _ (List.mem_of_getElem? (i := 305) (by decide +kernel))) rfl, gt_in (List.mem_append_right _ (List.mem_of_getElem? (i := 1) (by decide +kernel))) rfl, by decide +kernel⟩
theorem win_X9_pieceAt : Cond.instanceMethod yX9_pieceAt ∈ lw_gt := gt_in (List.mem_append_right _ (List.mem_of_getElem? (i := 303) (by decide +kernel))) rfl
theorem wsel_X9_pieceAt : Cond.selects yX9_pieceAt.cls yX9_pieceAt yX9_pieceAt ∈ lw_gt := gt_in (List.mem_append_right _ (List.mem_of_getElem? (i := 304) (by decide +kernel))) rfl
theorem wm_X9_244 : Cond.methodLink RX9 244 yX9_told ∈ lw_gt := gt_in (List.mem_append_right _ (List.mem_of_getElem? (i := 729) (by decide +kernel))) rfl
theorem ck_X9_told : CkE yX9_told cX9_told 2 (some .int) 1 := ⟨gt_in (List.mem_append_right _ (List.mem_of_getElem? (i := 706) (by decide +kernel))) rfl, gt_in (List.mem_append_right _ (List.mem_of_getElem? (i := 1) (by decide +kernel))) rfl, by decide +kernel⟩
theorem win_X9_told : Cond.instanceMethod yX9_told ∈ lw_gt := gt_in (List.mem_append_right _ (List.mem_of_getElem? (i := 704) (by decide +kernel))) rfl
theorem wsel_X9_told : Cond.selects yX9_told.cls yX9_told yX9_told ∈ lw_gt := gt_in (List.mem_append_right _ (List.mem_of_getElem? (i := 705) (by decide +kernel))) rfl
theorem wf_X10_49 : Cond.fieldLink RX10 49 "CutConformerModel" "remembered" "I" ∈ lw_gt := gt_in (List.mem_append_right _ (List.mem_of_getElem? (i := 748) (by decide +kernel))) rfl
theorem wf_X10_7 : Cond.fieldLink RX10 7 "CutConformerModel" "page" "[I" ∈ lw_gt := gt_in (List.mem_append_right _ (List.mem_of_getElem? (i := 747) (by decide +kernel))) rfl
theorem wm_X10_53 : Cond.methodLink RX10 53 yX10_pieceLong ∈ lw_gt := gt_in (List.mem_append_right _ (List.mem_of_getElem? (i := 817) (by decide +kernel))) rfl
theorem ck_X10_pieceLong : CkE yX10_pieceLong cX10_pieceLong 2 (some .int) 1 := ⟨gt_in (List.mem_append_right _ (List.mem_of_getElem? (i := 820) (by decide +kernel))) rfl, gt_in (List.mem_append_right _ (List.mem_of_getElem? (i := 13) (by decide +kernel))) rfl, by decide +kernel⟩
theorem win_X10_pieceLong : Cond.instanceMethod yX10_pieceLong ∈ lw_gt := gt_in (List.mem_append_right _ (List.mem_of_getElem? (i := 819) (by decide +kernel))) rfl
theorem wsel_X10_pieceLong : Cond.selects yX10_pieceLong.cls yX10_pieceLong yX10_pieceLong ∈ lw_gt := gt_in (List.mem_append_left _ (List.mem_of_getElem? (i := 15) (by decide +kernel))) rfl
theorem wm_X10_57 : Cond.methodLink RX10 57 yX10_pieceNew ∈ lw_gt := gt_in (List.mem_append_right _ (List.mem_of_getElem? (i := 813) (by decide +kernel))) rfl
theorem ck_X10_pieceNew : CkE yX10_pieceNew cX10_pieceNew 4 (some .int) 1 := ⟨gt_in (List.mem_append_right _ (List.mem_of_getElem? (i := 816) (by decide +kernel))) rfl, gt_in (List.mem_append_right _ (List.mem_of_getElem? (i := 13) (by decide +kernel))) rfl, by decide +kernel⟩
theorem win_X10_pieceNew : Cond.instanceMethod yX10_pieceNew ∈ lw_gt := gt_in (List.mem_append_right _ (List.mem_of_getElem? (i := 815) (by decide +kernel))) rfl
theorem wsel_X10_pieceNew : Cond.selects yX10_pieceNew.cls yX10_pieceNew yX10_pieceNew ∈ lw_gt := gt_in (List.mem_append_left _ (List.mem_of_getElem? (i := 14) (by decide +kernel))) rfl
theorem wm_X10_60 : Cond.methodLink RX10 60 yX10_in ∈ lw_gt := gt_in (List.mem_append_right _ (List.mem_of_getElem? (i := 806) (by decide +kernel))) rfl
theorem ck_X10_in : CkE yX10_in cX10_in 3 (some .boolean) 3 := ⟨gt_in (List.mem_append_right _ (List.mem_of_getElem? (i := 808) (by decide +kernel))) rfl, gt_in (List.mem_append_right _ (List.mem_of_getElem? (i := 13) (by decide +kernel))) rfl, by decide +kernel⟩
theorem wst_X10_in : Cond.static yX10_in ∈ lw_gt := gt_in (List.mem_append_right _ (List.mem_of_getElem? (i := 807) (by decide +kernel))) rfl
theorem wm_X10_64 : Cond.methodLink RX10 64 yX10_newLong ∈ lw_gt := gt_in (List.mem_append_right _ (List.mem_of_getElem? (i := 809) (by decide +kernel))) rfl
theorem ck_X10_newLong : CkE yX10_newLong cX10_newLong 1 (some .int) 0 := ⟨gt_in (List.mem_append_right _ (List.mem_of_getElem? (i := 812) (by decide +kernel))) rfl, gt_in (List.mem_append_right _ (List.mem_of_getElem? (i := 13) (by decide +kernel))) rfl, by decide +kernel⟩
theorem win_X10_newLong : Cond.instanceMethod yX10_newLong ∈ lw_gt := gt_in (List.mem_append_right _ (List.mem_of_getElem? (i := 811) (by decide +kernel))) rfl
theorem wsel_X10_newLong : Cond.selects yX10_newLong.cls yX10_newLong yX10_newLong ∈ lw_gt := gt_in (List.mem_append_left _ (List.mem_of_getElem? (i := 13) (by decide +kernel))) rfl
theorem wm_X10_68 : Cond.methodLink RX10 68 yX10_records ∈ lw_gt := gt_in (List.mem_append_right _ (List.mem_of_getElem? (i := 821) (by decide +kernel))) rfl
theorem ck_X10_records : CkE yX10_records cX10_records 2 none 0 := ⟨gt_in (List.mem_append_right _ (List.mem_of_getElem? (i := 824) (by decide +kernel))) rfl, gt_in (List.mem_append_right _ (List.mem_of_getElem? (i := 13) (by decide +kernel))) rfl, by decide +kernel⟩
theorem win_X10_records : Cond.instanceMethod yX10_records ∈ lw_gt := gt_in (List.mem_append_right _ (List.mem_of_getElem? (i := 823) (by decide +kernel))) rfl
theorem wsel_X10_records : Cond.selects yX10_records.cls yX10_records yX10_records ∈ lw_gt := gt_in (List.mem_append_left _ (List.mem_of_getElem? (i := 16) (by decide +kernel))) rfl
theorem wm_X10_71 : Cond.methodLink RX10 71 yX10_isPiece ∈ lw_gt := gt_in (List.mem_append_right _ (List.mem_of_getElem? (i := 829) (by decide +kernel))) rfl
theorem ck_X10_isPiece : CkE yX10_isPiece cX10_isPiece 2 (some .boolean) 1 := ⟨gt_in (List.mem_append_right _ (List.mem_of_getElem? (i := 832) (by decide +kernel))) rfl, gt_in (List.mem_append_right _ (List.mem_of_getElem? (i := 13) (by decide +kernel))) rfl, by decide +kernel⟩
theorem win_X10_isPiece : Cond.instanceMethod yX10_isPiece ∈ lw_gt := gt_in (List.mem_append_right _ (List.mem_of_getElem? (i := 831) (by decide +kernel))) rfl
theorem wsel_X10_isPiece : Cond.selects yX10_isPiece.cls yX10_isPiece yX10_isPiece ∈ lw_gt := gt_in (List.mem_append_left _ (List.mem_of_getElem? (i := 17) (by decide +kernel))) rfl
theorem wm_X10_75 : Cond.methodLink RX10 75 yX10_pieceFirst ∈ lw_gt := gt_in (List.mem_append_right _ (List.mem_of_getElem? (i := 837) (by decide +kernel))) rfl
theorem ck_X10_pieceFirst : CkE yX10_pieceFirst cX10_pieceFirst 2 (some .int) 1 := ⟨gt_in (List.mem_append_right _ (List.mem_of_getElem? (i := 840) (by decide +kernel))) rfl, gt_in (List.mem_append_right _ (List.mem_of_getElem? (i := 13) (by decide +kernel))) rfl, by decide +kernel⟩
theorem win_X10_pieceFirst : Cond.instanceMethod yX10_pieceFirst ∈ lw_gt := gt_in (List.mem_append_right _ (List.mem_of_getElem? (i := 839) (by decide +kernel))) rfl
theorem wsel_X10_pieceFirst : Cond.selects yX10_pieceFirst.cls yX10_pieceFirst yX10_pieceFirst ∈ lw_gt := gt_in (List.mem_append_left _ (List.mem_of_getElem? (i := 18) (by decide +kernel))) rfl
theorem wm_X10_78 : Cond.methodLink RX10 78 yX10_isShot ∈ lw_gt := gt_in (List.mem_append_right _ (List.mem_of_getElem? (i := 845) (by decide +kernel))) rfl
theorem ck_X10_isShot : CkE yX10_isShot cX10_isShot 4 (some .boolean) 1 := ⟨gt_in (List.mem_append_right _ (List.mem_of_getElem? (i := 848) (by decide +kernel))) rfl, gt_in (List.mem_append_right _ (List.mem_of_getElem? (i := 13) (by decide +kernel))) rfl, by decide +kernel⟩
theorem win_X10_isShot : Cond.instanceMethod yX10_isShot ∈ lw_gt := gt_in (List.mem_append_right _ (List.mem_of_getElem? (i := 847) (by decide +kernel))) rfl
theorem wsel_X10_isShot : Cond.selects yX10_isShot.cls yX10_isShot yX10_isShot ∈ lw_gt := gt_in (List.mem_append_left _ (List.mem_of_getElem? (i := 19) (by decide +kernel))) rfl
theorem wm_X10_81 : Cond.methodLink RX10 81 yX10_at ∈ lw_gt := gt_in (List.mem_append_right _ (List.mem_of_getElem? (i := 884) (by decide +kernel))) rfl
theorem ck_X10_at : CkE yX10_at cX10_at 2 (some .int) 1 := ⟨gt_in (List.mem_append_right _ (List.mem_of_getElem? (i := 887) (by decide +kernel))) rfl, gt_in (List.mem_append_right _ (List.mem_of_getElem? (i := 13) (by decide +kernel))) rfl, by decide +kernel⟩
theorem win_X10_at : Cond.instanceMethod yX10_at ∈ lw_gt := gt_in (List.mem_append_right _ (List.mem_of_getElem? (i := 886) (by decide +kernel))) rfl
theorem wsel_X10_at : Cond.selects yX10_at.cls yX10_at yX10_at ∈ lw_gt := gt_in (List.mem_append_left _ (List.mem_of_getElem? (i := 22) (by decide +kernel))) rfl
theorem wf_X10_84 : Cond.fieldLink RX10 84 "CutConformerModel" "many" "I" ∈ lw_gt := gt_in (List.mem_append_right _ (List.mem_of_getElem? (i := 756) (by decide +kernel))) rfl
theorem wf_X10_16 : Cond.fieldLink RX10 16 "CutConformerModel" "begins" "[I" ∈ lw_gt := gt_in (List.mem_append_right _ (List.mem_of_getElem? (i := 751) (by decide +kernel))) rfl
theorem wf_X10_19 : Cond.fieldLink RX10 19 "CutConformerModel" "ends" "[I" ∈ lw_gt := gt_in (List.mem_append_right _ (List.mem_of_getElem? (i := 752) (by decide +kernel))) rfl
theorem wf_X10_22 : Cond.fieldLink RX10 22 "CutConformerModel" "parts" "[I" ∈ lw_gt := gt_in (List.mem_append_right _ (List.mem_of_getElem? (i := 753) (by decide +kernel))) rfl
theorem wf_X10_25 : Cond.fieldLink RX10 25 "CutConformerModel" "one" "[I" ∈ lw_gt := gt_in (List.mem_append_right _ (List.mem_of_getElem? (i := 754) (by decide +kernel))) rfl
theorem wf_X10_28 : Cond.fieldLink RX10 28 "CutConformerModel" "two" "[I" ∈ lw_gt := gt_in (List.mem_append_right _ (List.mem_of_getElem? (i := 755) (by decide +kernel))) rfl
theorem wf_X10_31 : Cond.fieldLink RX10 31 "CutConformerModel" "oldBegins" "[I" ∈ lw_gt := gt_in (List.mem_append_right _ (List.mem_of_getElem? (i := 757) (by decide +kernel))) rfl
theorem wf_X10_34 : Cond.fieldLink RX10 34 "CutConformerModel" "oldEnds" "[I" ∈ lw_gt := gt_in (List.mem_append_right _ (List.mem_of_getElem? (i := 758) (by decide +kernel))) rfl
theorem wf_X10_37 : Cond.fieldLink RX10 37 "CutConformerModel" "oldParts" "[I" ∈ lw_gt := gt_in (List.mem_append_right _ (List.mem_of_getElem? (i := 759) (by decide +kernel))) rfl
theorem wf_X10_40 : Cond.fieldLink RX10 40 "CutConformerModel" "oldOne" "[I" ∈ lw_gt := gt_in (List.mem_append_right _ (List.mem_of_getElem? (i := 760) (by decide +kernel))) rfl
theorem wf_X10_43 : Cond.fieldLink RX10 43 "CutConformerModel" "oldTwo" "[I" ∈ lw_gt := gt_in (List.mem_append_right _ (List.mem_of_getElem? (i := 761) (by decide +kernel))) rfl
theorem wm_X10_87 : Cond.methodLink RX10 87 yX10_sets ∈ lw_gt := gt_in (List.mem_append_right _ (List.mem_of_getElem? (i := 896) (by decide +kernel))) rfl
theorem ck_X10_sets : CkE yX10_sets cX10_sets 5 none 4 := ⟨gt_in (List.mem_append_right _ (List.mem_of_getElem? (i := 899) (by decide +kernel))) rfl, gt_in (List.mem_append_right _ (List.mem_of_getElem? (i := 13) (by decide +kernel))) rfl, by decide +kernel⟩
theorem win_X10_sets : Cond.instanceMethod yX10_sets ∈ lw_gt := gt_in (List.mem_append_right _ (List.mem_of_getElem? (i := 898) (by decide +kernel))) rfl
theorem wsel_X10_sets : Cond.selects yX10_sets.cls yX10_sets yX10_sets ∈ lw_gt := gt_in (List.mem_append_left _ (List.mem_of_getElem? (i := 25) (by decide +kernel))) rfl
theorem wm_X10_91 : Cond.methodLink RX10 91 yX10_partAt ∈ lw_gt := gt_in (List.mem_append_right _ (List.mem_of_getElem? (i := 888) (by decide +kernel))) rfl
theorem ck_X10_partAt : CkE yX10_partAt cX10_partAt 2 (some .int) 1 := ⟨gt_in (List.mem_append_right _ (List.mem_of_getElem? (i := 891) (by decide +kernel))) rfl, gt_in (List.mem_append_right _ (List.mem_of_getElem? (i := 13) (by decide +kernel))) rfl, by decide +kernel⟩
theorem win_X10_partAt : Cond.instanceMethod yX10_partAt ∈ lw_gt := gt_in (List.mem_append_right _ (List.mem_of_getElem? (i := 890) (by decide +kernel))) rfl
theorem wsel_X10_partAt : Cond.selects yX10_partAt.cls yX10_partAt yX10_partAt ∈ lw_gt := gt_in (List.mem_append_left _ (List.mem_of_getElem? (i := 23) (by decide +kernel))) rfl
theorem wf_X10_46 : Cond.fieldLink RX10 46 "CutConformerModel" "texts" "[I" ∈ lw_gt := gt_in (List.mem_append_right _ (List.mem_of_getElem? (i := 762) (by decide +kernel))) rfl
theorem wm_X10_94 : Cond.methodLink RX10 94 yX10_longOf ∈ lw_gt := gt_in (List.mem_append_right _ (List.mem_of_getElem? (i := 936) (by decide +kernel))) rfl
theorem ck_X10_longOf : CkE yX10_longOf cX10_longOf 2 (some .int) 1 := ⟨gt_in (List.mem_append_right _ (List.mem_of_getElem? (i := 939) (by decide +kernel))) rfl, gt_in (List.mem_append_right _ (List.mem_of_getElem? (i := 13) (by decide +kernel))) rfl, by decide +kernel⟩
theorem win_X10_longOf : Cond.instanceMethod yX10_longOf ∈ lw_gt := gt_in (List.mem_append_right _ (List.mem_of_getElem? (i := 938) (by decide +kernel))) rfl
theorem wsel_X10_longOf : Cond.selects yX10_longOf.cls yX10_longOf yX10_longOf ∈ lw_gt := gt_in (List.mem_append_left _ (List.mem_of_getElem? (i := 32) (by decide +kernel))) rfl
theorem wm_X10_97 : Cond.methodLink RX10 97 yX10_byteOf ∈ lw_gt := gt_in (List.mem_append_right _ (List.mem_of_getElem? (i := 972) (by decide +kernel))) rfl
theorem ck_X10_byteOf : CkE yX10_byteOf cX10_byteOf 3 (some .int) 2 := ⟨gt_in (List.mem_append_right _ (List.mem_of_getElem? (i := 975) (by decide +kernel))) rfl, gt_in (List.mem_append_right _ (List.mem_of_getElem? (i := 13) (by decide +kernel))) rfl, by decide +kernel⟩
theorem win_X10_byteOf : Cond.instanceMethod yX10_byteOf ∈ lw_gt := gt_in (List.mem_append_right _ (List.mem_of_getElem? (i := 974) (by decide +kernel))) rfl
theorem wsel_X10_byteOf : Cond.selects yX10_byteOf.cls yX10_byteOf yX10_byteOf ∈ lw_gt := gt_in (List.mem_append_left _ (List.mem_of_getElem? (i := 41) (by decide +kernel))) rfl
theorem wm_X10_101 : Cond.methodLink RX10 101 yX10_isWord ∈ lw_gt := gt_in (List.mem_append_right _ (List.mem_of_getElem? (i := 980) (by decide +kernel))) rfl
theorem ck_X10_isWord : CkE yX10_isWord cX10_isWord 8 (some .boolean) 5 := ⟨gt_in (List.mem_append_right _ (List.mem_of_getElem? (i := 983) (by decide +kernel))) rfl, gt_in (List.mem_append_right _ (List.mem_of_getElem? (i := 13) (by decide +kernel))) rfl, by decide +kernel⟩
theorem win_X10_isWord : Cond.instanceMethod yX10_isWord ∈ lw_gt := gt_in (List.mem_append_right _ (List.mem_of_getElem? (i := 982) (by decide +kernel))) rfl
theorem wsel_X10_isWord : Cond.selects yX10_isWord.cls yX10_isWord yX10_isWord ∈ lw_gt := gt_in (List.mem_append_left _ (List.mem_of_getElem? (i := 43) (by decide +kernel))) rfl
theorem wm_X10_105 : Cond.methodLink RX10 105 yX10_setting ∈ lw_gt := gt_in (List.mem_append_right _ (List.mem_of_getElem? (i := 944) (by decide +kernel))) rfl
theorem ck_X10_setting : CkE yX10_setting cX10_setting 2 (some .int) 1 := ⟨gt_in (List.mem_append_right _ (List.mem_of_getElem? (i := 947) (by decide +kernel))) rfl, gt_in (List.mem_append_right _ (List.mem_of_getElem? (i := 13) (by decide +kernel))) rfl, by decide +kernel⟩
theorem win_X10_setting : Cond.instanceMethod yX10_setting ∈ lw_gt := gt_in (List.mem_append_right _ (List.mem_of_getElem? (i := 946) (by decide +kernel))) rfl
theorem wsel_X10_setting : Cond.selects yX10_setting.cls yX10_setting yX10_setting ∈ lw_gt := gt_in (List.mem_append_left _ (List.mem_of_getElem? (i := 34) (by decide +kernel))) rfl
theorem wm_X10_108 : Cond.methodLink RX10 108 yX10_rankOf ∈ lw_gt := gt_in (List.mem_append_right _ (List.mem_of_getElem? (i := 976) (by decide +kernel))) rfl
theorem ck_X10_rankOf : CkE yX10_rankOf cX10_rankOf 5 (some .int) 2 := ⟨gt_in (List.mem_append_right _ (List.mem_of_getElem? (i := 979) (by decide +kernel))) rfl, gt_in (List.mem_append_right _ (List.mem_of_getElem? (i := 13) (by decide +kernel))) rfl, by decide +kernel⟩
theorem win_X10_rankOf : Cond.instanceMethod yX10_rankOf ∈ lw_gt := gt_in (List.mem_append_right _ (List.mem_of_getElem? (i := 978) (by decide +kernel))) rfl
theorem wsel_X10_rankOf : Cond.selects yX10_rankOf.cls yX10_rankOf yX10_rankOf ∈ lw_gt := gt_in (List.mem_append_left _ (List.mem_of_getElem? (i := 42) (by decide +kernel))) rfl
theorem wm_X10_111 : Cond.methodLink RX10 111 yX10_brokenAt ∈ lw_gt := gt_in (List.mem_append_right _ (List.mem_of_getElem? (i := 968) (by decide +kernel))) rfl
theorem ck_X10_brokenAt : CkE yX10_brokenAt cX10_brokenAt 12 (some .int) 1 := ⟨gt_in (List.mem_append_right _ (List.mem_of_getElem? (i := 971) (by decide +kernel))) rfl, gt_in (List.mem_append_right _ (List.mem_of_getElem? (i := 13) (by decide +kernel))) rfl, by decide +kernel⟩
theorem win_X10_brokenAt : Cond.instanceMethod yX10_brokenAt ∈ lw_gt := gt_in (List.mem_append_right _ (List.mem_of_getElem? (i := 970) (by decide +kernel))) rfl
theorem wsel_X10_brokenAt : Cond.selects yX10_brokenAt.cls yX10_brokenAt yX10_brokenAt ∈ lw_gt := gt_in (List.mem_append_left _ (List.mem_of_getElem? (i := 40) (by decide +kernel))) rfl
theorem wm_X10_114 : Cond.methodLink RX10 114 yX10_charactersOf ∈ lw_gt := gt_in (List.mem_append_right _ (List.mem_of_getElem? (i := 932) (by decide +kernel))) rfl
theorem ck_X10_charactersOf : CkE yX10_charactersOf cX10_charactersOf 2 (some .int) 1 := ⟨gt_in (List.mem_append_right _ (List.mem_of_getElem? (i := 935) (by decide +kernel))) rfl, gt_in (List.mem_append_right _ (List.mem_of_getElem? (i := 13) (by decide +kernel))) rfl, by decide +kernel⟩
theorem win_X10_charactersOf : Cond.instanceMethod yX10_charactersOf ∈ lw_gt := gt_in (List.mem_append_right _ (List.mem_of_getElem? (i := 934) (by decide +kernel))) rfl
theorem wsel_X10_charactersOf : Cond.selects yX10_charactersOf.cls yX10_charactersOf yX10_charactersOf ∈ lw_gt := gt_in (List.mem_append_left _ (List.mem_of_getElem? (i := 31) (by decide +kernel))) rfl
theorem wm_X10_117 : Cond.methodLink RX10 117 yX10_near ∈ lw_gt := gt_in (List.mem_append_right _ (List.mem_of_getElem? (i := 960) (by decide +kernel))) rfl
theorem ck_X10_near : CkE yX10_near cX10_near 6 (some .int) 1 := ⟨gt_in (List.mem_append_right _ (List.mem_of_getElem? (i := 963) (by decide +kernel))) rfl, gt_in (List.mem_append_right _ (List.mem_of_getElem? (i := 13) (by decide +kernel))) rfl, by decide +kernel⟩
theorem win_X10_near : Cond.instanceMethod yX10_near ∈ lw_gt := gt_in (List.mem_append_right _ (List.mem_of_getElem? (i := 962) (by decide +kernel))) rfl
theorem wsel_X10_near : Cond.selects yX10_near.cls yX10_near yX10_near ∈ lw_gt := gt_in (List.mem_append_left _ (List.mem_of_getElem? (i := 38) (by decide +kernel))) rfl
theorem wm_X10_120 : Cond.methodLink RX10 120 yX10_nextOf ∈ lw_gt := gt_in (List.mem_append_right _ (List.mem_of_getElem? (i := 952) (by decide +kernel))) rfl
theorem ck_X10_nextOf : CkE yX10_nextOf cX10_nextOf 3 (some .int) 1 := ⟨gt_in (List.mem_append_right _ (List.mem_of_getElem? (i := 955) (by decide +kernel))) rfl, gt_in (List.mem_append_right _ (List.mem_of_getElem? (i := 13) (by decide +kernel))) rfl, by decide +kernel⟩
theorem win_X10_nextOf : Cond.instanceMethod yX10_nextOf ∈ lw_gt := gt_in (List.mem_append_right _ (List.mem_of_getElem? (i := 954) (by decide +kernel))) rfl
theorem wsel_X10_nextOf : Cond.selects yX10_nextOf.cls yX10_nextOf yX10_nextOf ∈ lw_gt := gt_in (List.mem_append_left _ (List.mem_of_getElem? (i := 36) (by decide +kernel))) rfl
theorem wm_X10_123 : Cond.methodLink RX10 123 yX10_readingOf ∈ lw_gt := gt_in (List.mem_append_right _ (List.mem_of_getElem? (i := 940) (by decide +kernel))) rfl
theorem ck_X10_readingOf : CkE yX10_readingOf cX10_readingOf 3 (some .int) 1 := ⟨gt_in (List.mem_append_right _ (List.mem_of_getElem? (i := 943) (by decide +kernel))) rfl, gt_in (List.mem_append_right _ (List.mem_of_getElem? (i := 13) (by decide +kernel))) rfl, by decide +kernel⟩
theorem win_X10_readingOf : Cond.instanceMethod yX10_readingOf ∈ lw_gt := gt_in (List.mem_append_right _ (List.mem_of_getElem? (i := 942) (by decide +kernel))) rfl
theorem wsel_X10_readingOf : Cond.selects yX10_readingOf.cls yX10_readingOf yX10_readingOf ∈ lw_gt := gt_in (List.mem_append_left _ (List.mem_of_getElem? (i := 33) (by decide +kernel))) rfl
theorem wm_X10_126 : Cond.methodLink RX10 126 yX10_isOff ∈ lw_gt := gt_in (List.mem_append_right _ (List.mem_of_getElem? (i := 956) (by decide +kernel))) rfl
theorem ck_X10_isOff : CkE yX10_isOff cX10_isOff 2 (some .boolean) 1 := ⟨gt_in (List.mem_append_right _ (List.mem_of_getElem? (i := 959) (by decide +kernel))) rfl, gt_in (List.mem_append_right _ (List.mem_of_getElem? (i := 13) (by decide +kernel))) rfl, by decide +kernel⟩
theorem win_X10_isOff : Cond.instanceMethod yX10_isOff ∈ lw_gt := gt_in (List.mem_append_right _ (List.mem_of_getElem? (i := 958) (by decide +kernel))) rfl
theorem wsel_X10_isOff : Cond.selects yX10_isOff.cls yX10_isOff yX10_isOff ∈ lw_gt := gt_in (List.mem_append_left _ (List.mem_of_getElem? (i := 37) (by decide +kernel))) rfl
theorem wm_X10_129 : Cond.methodLink RX10 129 yX10_isTooWide ∈ lw_gt := gt_in (List.mem_append_right _ (List.mem_of_getElem? (i := 964) (by decide +kernel))) rfl
theorem ck_X10_isTooWide : CkE yX10_isTooWide cX10_isTooWide 4 (some .boolean) 1 := ⟨gt_in (List.mem_append_right _ (List.mem_of_getElem? (i := 967) (by decide +kernel))) rfl, gt_in (List.mem_append_right _ (List.mem_of_getElem? (i := 13) (by decide +kernel))) rfl, by decide +kernel⟩
theorem win_X10_isTooWide : Cond.instanceMethod yX10_isTooWide ∈ lw_gt := gt_in (List.mem_append_right _ (List.mem_of_getElem? (i := 966) (by decide +kernel))) rfl
theorem wsel_X10_isTooWide : Cond.selects yX10_isTooWide.cls yX10_isTooWide yX10_isTooWide ∈ lw_gt := gt_in (List.mem_append_left _ (List.mem_of_getElem? (i := 39) (by decide +kernel))) rfl
theorem wf_X10_132 : Cond.fieldLink RX10 132 "CutConformerModel" "stretchesMany" "I" ∈ lw_gt := gt_in (List.mem_append_right _ (List.mem_of_getElem? (i := 763) (by decide +kernel))) rfl
theorem wm_X10_135 : Cond.methodLink RX10 135 yX10_inserts ∈ lw_gt := gt_in (List.mem_append_right _ (List.mem_of_getElem? (i := 892) (by decide +kernel))) rfl
theorem ck_X10_inserts : CkE yX10_inserts cX10_inserts 5 none 3 := ⟨gt_in (List.mem_append_right _ (List.mem_of_getElem? (i := 895) (by decide +kernel))) rfl, gt_in (List.mem_append_right _ (List.mem_of_getElem? (i := 13) (by decide +kernel))) rfl, by decide +kernel⟩
theorem win_X10_inserts : Cond.instanceMethod yX10_inserts ∈ lw_gt := gt_in (List.mem_append_right _ (List.mem_of_getElem? (i := 894) (by decide +kernel))) rfl
theorem wsel_X10_inserts : Cond.selects yX10_inserts.cls yX10_inserts yX10_inserts ∈ lw_gt := gt_in (List.mem_append_left _ (List.mem_of_getElem? (i := 24) (by decide +kernel))) rfl
theorem wm_X10_139 : Cond.methodLink RX10 139 yX10_empties ∈ lw_gt := gt_in (List.mem_append_right _ (List.mem_of_getElem? (i := 916) (by decide +kernel))) rfl
theorem ck_X10_empties : CkE yX10_empties cX10_empties 2 none 0 := ⟨gt_in (List.mem_append_right _ (List.mem_of_getElem? (i := 919) (by decide +kernel))) rfl, gt_in (List.mem_append_right _ (List.mem_of_getElem? (i := 13) (by decide +kernel))) rfl, by decide +kernel⟩
theorem win_X10_empties : Cond.instanceMethod yX10_empties ∈ lw_gt := gt_in (List.mem_append_right _ (List.mem_of_getElem? (i := 918) (by decide +kernel))) rfl
theorem wsel_X10_empties : Cond.selects yX10_empties.cls yX10_empties yX10_empties ∈ lw_gt := gt_in (List.mem_append_left _ (List.mem_of_getElem? (i := 29) (by decide +kernel))) rfl
theorem wf_X10_142 : Cond.fieldLink RX10 142 "CutConformerModel" "lost" "I" ∈ lw_gt := gt_in (List.mem_append_right _ (List.mem_of_getElem? (i := 764) (by decide +kernel))) rfl
theorem wm_X10_145 : Cond.methodLink RX10 145 yX10_stretchesOf ∈ lw_gt := gt_in (List.mem_append_right _ (List.mem_of_getElem? (i := 1012) (by decide +kernel))) rfl
theorem ck_X10_stretchesOf : CkE yX10_stretchesOf cX10_stretchesOf 12 (some .boolean) 4 := ⟨gt_in (List.mem_append_right _ (List.mem_of_getElem? (i := 1015) (by decide +kernel))) rfl, gt_in (List.mem_append_right _ (List.mem_of_getElem? (i := 13) (by decide +kernel))) rfl, by decide +kernel⟩
theorem win_X10_stretchesOf : Cond.instanceMethod yX10_stretchesOf ∈ lw_gt := gt_in (List.mem_append_right _ (List.mem_of_getElem? (i := 1014) (by decide +kernel))) rfl
theorem wsel_X10_stretchesOf : Cond.selects yX10_stretchesOf.cls yX10_stretchesOf yX10_stretchesOf ∈ lw_gt := gt_in (List.mem_append_left _ (List.mem_of_getElem? (i := 48) (by decide +kernel))) rfl
theorem wm_X10_149 : Cond.methodLink RX10 149 yX10_speakerOf ∈ lw_gt := gt_in (List.mem_append_right _ (List.mem_of_getElem? (i := 992) (by decide +kernel))) rfl
theorem ck_X10_speakerOf : CkE yX10_speakerOf cX10_speakerOf 2 (some .int) 1 := ⟨gt_in (List.mem_append_right _ (List.mem_of_getElem? (i := 995) (by decide +kernel))) rfl, gt_in (List.mem_append_right _ (List.mem_of_getElem? (i := 13) (by decide +kernel))) rfl, by decide +kernel⟩
theorem win_X10_speakerOf : Cond.instanceMethod yX10_speakerOf ∈ lw_gt := gt_in (List.mem_append_right _ (List.mem_of_getElem? (i := 994) (by decide +kernel))) rfl
theorem wsel_X10_speakerOf : Cond.selects yX10_speakerOf.cls yX10_speakerOf yX10_speakerOf ∈ lw_gt := gt_in (List.mem_append_left _ (List.mem_of_getElem? (i := 45) (by decide +kernel))) rfl
theorem wm_X10_152 : Cond.methodLink RX10 152 yX10_areOne ∈ lw_gt := gt_in (List.mem_append_right _ (List.mem_of_getElem? (i := 1020) (by decide +kernel))) rfl
theorem ck_X10_areOne : CkE yX10_areOne cX10_areOne 6 (some .boolean) 1 := ⟨gt_in (List.mem_append_right _ (List.mem_of_getElem? (i := 1023) (by decide +kernel))) rfl, gt_in (List.mem_append_right _ (List.mem_of_getElem? (i := 13) (by decide +kernel))) rfl, by decide +kernel⟩
theorem win_X10_areOne : Cond.instanceMethod yX10_areOne ∈ lw_gt := gt_in (List.mem_append_right _ (List.mem_of_getElem? (i := 1022) (by decide +kernel))) rfl
theorem wsel_X10_areOne : Cond.selects yX10_areOne.cls yX10_areOne yX10_areOne ∈ lw_gt := gt_in (List.mem_append_left _ (List.mem_of_getElem? (i := 50) (by decide +kernel))) rfl
theorem wm_X10_155 : Cond.methodLink RX10 155 yX10_takes ∈ lw_gt := gt_in (List.mem_append_right _ (List.mem_of_getElem? (i := 880) (by decide +kernel))) rfl
theorem ck_X10_takes : CkE yX10_takes cX10_takes 2 none 0 := ⟨gt_in (List.mem_append_right _ (List.mem_of_getElem? (i := 883) (by decide +kernel))) rfl, gt_in (List.mem_append_right _ (List.mem_of_getElem? (i := 13) (by decide +kernel))) rfl, by decide +kernel⟩
theorem win_X10_takes : Cond.instanceMethod yX10_takes ∈ lw_gt := gt_in (List.mem_append_right _ (List.mem_of_getElem? (i := 882) (by decide +kernel))) rfl
theorem wsel_X10_takes : Cond.selects yX10_takes.cls yX10_takes yX10_takes ∈ lw_gt := gt_in (List.mem_append_left _ (List.mem_of_getElem? (i := 21) (by decide +kernel))) rfl
theorem wm_X10_171 : Cond.methodLink RX10 171 yX10_separates ∈ lw_gt := gt_in (List.mem_append_right _ (List.mem_of_getElem? (i := 1032) (by decide +kernel))) rfl
theorem ck_X10_separates : CkE yX10_separates cX10_separates 4 none 0 := ⟨gt_in (List.mem_append_right _ (List.mem_of_getElem? (i := 1035) (by decide +kernel))) rfl, gt_in (List.mem_append_right _ (List.mem_of_getElem? (i := 13) (by decide +kernel))) rfl, by decide +kernel⟩
theorem win_X10_separates : Cond.instanceMethod yX10_separates ∈ lw_gt := gt_in (List.mem_append_right _ (List.mem_of_getElem? (i := 1034) (by decide +kernel))) rfl
theorem wsel_X10_separates : Cond.selects yX10_separates.cls yX10_separates yX10_separates ∈ lw_gt := gt_in (List.mem_append_left _ (List.mem_of_getElem? (i := 53) (by decide +kernel))) rfl
theorem wm_X10_168 : Cond.methodLink RX10 168 yX10_snaps ∈ lw_gt := gt_in (List.mem_append_right _ (List.mem_of_getElem? (i := 1028) (by decide +kernel))) rfl
theorem ck_X10_snaps : CkE yX10_snaps cX10_snaps 4 none 0 := ⟨gt_in (List.mem_append_right _ (List.mem_of_getElem? (i := 1031) (by decide +kernel))) rfl, gt_in (List.mem_append_right _ (List.mem_of_getElem? (i := 13) (by decide +kernel))) rfl, by decide +kernel⟩
theorem win_X10_snaps : Cond.instanceMethod yX10_snaps ∈ lw_gt := gt_in (List.mem_append_right _ (List.mem_of_getElem? (i := 1030) (by decide +kernel))) rfl
theorem wsel_X10_snaps : Cond.selects yX10_snaps.cls yX10_snaps yX10_snaps ∈ lw_gt := gt_in (List.mem_append_left _ (List.mem_of_getElem? (i := 52) (by decide +kernel))) rfl
theorem wm_X10_165 : Cond.methodLink RX10 165 yX10_reads ∈ lw_gt := gt_in (List.mem_append_right _ (List.mem_of_getElem? (i := 1024) (by decide +kernel))) rfl
theorem ck_X10_reads : CkE yX10_reads cX10_reads 4 none 0 := ⟨gt_in (List.mem_append_right _ (List.mem_of_getElem? (i := 1027) (by decide +kernel))) rfl, gt_in (List.mem_append_right _ (List.mem_of_getElem? (i := 13) (by decide +kernel))) rfl, by decide +kernel⟩
theorem win_X10_reads : Cond.instanceMethod yX10_reads ∈ lw_gt := gt_in (List.mem_append_right _ (List.mem_of_getElem? (i := 1026) (by decide +kernel))) rfl
theorem wsel_X10_reads : Cond.selects yX10_reads.cls yX10_reads yX10_reads ∈ lw_gt := gt_in (List.mem_append_left _ (List.mem_of_getElem? (i := 51) (by decide +kernel))) rfl
theorem wm_X10_162 : Cond.methodLink RX10 162 yX10_merges ∈ lw_gt := gt_in (List.mem_append_right _ (List.mem_of_getElem? (i := 1016) (by decide +kernel))) rfl
theorem ck_X10_merges : CkE yX10_merges cX10_merges 3 none 0 := ⟨gt_in (List.mem_append_right _ (List.mem_of_getElem? (i := 1019) (by decide +kernel))) rfl, gt_in (List.mem_append_right _ (List.mem_of_getElem? (i := 13) (by decide +kernel))) rfl, by decide +kernel⟩
theorem win_X10_merges : Cond.instanceMethod yX10_merges ∈ lw_gt := gt_in (List.mem_append_right _ (List.mem_of_getElem? (i := 1018) (by decide +kernel))) rfl
theorem wsel_X10_merges : Cond.selects yX10_merges.cls yX10_merges yX10_merges ∈ lw_gt := gt_in (List.mem_append_left _ (List.mem_of_getElem? (i := 49) (by decide +kernel))) rfl
theorem wm_X10_158 : Cond.methodLink RX10 158 yX10_maps ∈ lw_gt := gt_in (List.mem_append_right _ (List.mem_of_getElem? (i := 1008) (by decide +kernel))) rfl
theorem ck_X10_maps : CkE yX10_maps cX10_maps 3 (some .boolean) 0 := ⟨gt_in (List.mem_append_right _ (List.mem_of_getElem? (i := 1011) (by decide +kernel))) rfl, gt_in (List.mem_append_right _ (List.mem_of_getElem? (i := 13) (by decide +kernel))) rfl, by decide +kernel⟩
theorem win_X10_maps : Cond.instanceMethod yX10_maps ∈ lw_gt := gt_in (List.mem_append_right _ (List.mem_of_getElem? (i := 1010) (by decide +kernel))) rfl
theorem wsel_X10_maps : Cond.selects yX10_maps.cls yX10_maps yX10_maps ∈ lw_gt := gt_in (List.mem_append_left _ (List.mem_of_getElem? (i := 47) (by decide +kernel))) rfl
theorem wf_X10_174 : Cond.fieldLink RX10 174 "CutConformerModel" "typed" "I" ∈ lw_gt := gt_in (List.mem_append_right _ (List.mem_of_getElem? (i := 750) (by decide +kernel))) rfl
theorem wf_X10_13 : Cond.fieldLink RX10 13 "CutConformerModel" "text" "[I" ∈ lw_gt := gt_in (List.mem_append_right _ (List.mem_of_getElem? (i := 749) (by decide +kernel))) rfl
theorem wm_X10_177 : Cond.methodLink RX10 177 yX10_areTimes ∈ lw_gt := gt_in (List.mem_append_right _ (List.mem_of_getElem? (i := 873) (by decide +kernel))) rfl
theorem ck_X10_areTimes : CkE yX10_areTimes cX10_areTimes 2 (some .boolean) 2 := ⟨gt_in (List.mem_append_right _ (List.mem_of_getElem? (i := 875) (by decide +kernel))) rfl, gt_in (List.mem_append_right _ (List.mem_of_getElem? (i := 13) (by decide +kernel))) rfl, by decide +kernel⟩
theorem wst_X10_areTimes : Cond.static yX10_areTimes ∈ lw_gt := gt_in (List.mem_append_right _ (List.mem_of_getElem? (i := 874) (by decide +kernel))) rfl
theorem wm_X10_181 : Cond.methodLink RX10 181 yX10_wrongBlank ∈ lw_gt := gt_in (List.mem_append_right _ (List.mem_of_getElem? (i := 876) (by decide +kernel))) rfl
theorem ck_X10_wrongBlank : CkE yX10_wrongBlank cX10_wrongBlank 2 (some .int) 0 := ⟨gt_in (List.mem_append_right _ (List.mem_of_getElem? (i := 879) (by decide +kernel))) rfl, gt_in (List.mem_append_right _ (List.mem_of_getElem? (i := 13) (by decide +kernel))) rfl, by decide +kernel⟩
theorem win_X10_wrongBlank : Cond.instanceMethod yX10_wrongBlank ∈ lw_gt := gt_in (List.mem_append_right _ (List.mem_of_getElem? (i := 878) (by decide +kernel))) rfl
theorem wsel_X10_wrongBlank : Cond.selects yX10_wrongBlank.cls yX10_wrongBlank yX10_wrongBlank ∈ lw_gt := gt_in (List.mem_append_left _ (List.mem_of_getElem? (i := 20) (by decide +kernel))) rfl
theorem wm_X10_184 : Cond.methodLink RX10 184 yX10_lays ∈ lw_gt := gt_in (List.mem_append_right _ (List.mem_of_getElem? (i := 900) (by decide +kernel))) rfl
theorem ck_X10_lays : CkE yX10_lays cX10_lays 3 none 0 := ⟨gt_in (List.mem_append_right _ (List.mem_of_getElem? (i := 903) (by decide +kernel))) rfl, gt_in (List.mem_append_right _ (List.mem_of_getElem? (i := 13) (by decide +kernel))) rfl, by decide +kernel⟩
theorem win_X10_lays : Cond.instanceMethod yX10_lays ∈ lw_gt := gt_in (List.mem_append_right _ (List.mem_of_getElem? (i := 902) (by decide +kernel))) rfl
theorem wsel_X10_lays : Cond.selects yX10_lays.cls yX10_lays yX10_lays ∈ lw_gt := gt_in (List.mem_append_left _ (List.mem_of_getElem? (i := 26) (by decide +kernel))) rfl
theorem wm_X10_187 : Cond.methodLink RX10 187 yX10_placeOf ∈ lw_gt := gt_in (List.mem_append_right _ (List.mem_of_getElem? (i := 904) (by decide +kernel))) rfl
theorem ck_X10_placeOf : CkE yX10_placeOf cX10_placeOf 3 (some .int) 1 := ⟨gt_in (List.mem_append_right _ (List.mem_of_getElem? (i := 907) (by decide +kernel))) rfl, gt_in (List.mem_append_right _ (List.mem_of_getElem? (i := 13) (by decide +kernel))) rfl, by decide +kernel⟩
theorem win_X10_placeOf : Cond.instanceMethod yX10_placeOf ∈ lw_gt := gt_in (List.mem_append_right _ (List.mem_of_getElem? (i := 906) (by decide +kernel))) rfl
theorem wsel_X10_placeOf : Cond.selects yX10_placeOf.cls yX10_placeOf yX10_placeOf ∈ lw_gt := gt_in (List.mem_append_left _ (List.mem_of_getElem? (i := 27) (by decide +kernel))) rfl
theorem wm_X10_190 : Cond.methodLink RX10 190 yX10_isSubtitle ∈ lw_gt := gt_in (List.mem_append_right _ (List.mem_of_getElem? (i := 912) (by decide +kernel))) rfl
theorem ck_X10_isSubtitle : CkE yX10_isSubtitle cX10_isSubtitle 2 (some .boolean) 1 := ⟨gt_in (List.mem_append_right _ (List.mem_of_getElem? (i := 915) (by decide +kernel))) rfl, gt_in (List.mem_append_right _ (List.mem_of_getElem? (i := 13) (by decide +kernel))) rfl, by decide +kernel⟩
theorem win_X10_isSubtitle : Cond.instanceMethod yX10_isSubtitle ∈ lw_gt := gt_in (List.mem_append_right _ (List.mem_of_getElem? (i := 914) (by decide +kernel))) rfl
theorem wsel_X10_isSubtitle : Cond.selects yX10_isSubtitle.cls yX10_isSubtitle yX10_isSubtitle ∈ lw_gt := gt_in (List.mem_append_left _ (List.mem_of_getElem? (i := 28) (by decide +kernel))) rfl
theorem wm_X10_193 : Cond.methodLink RX10 193 yX10_faultsOf ∈ lw_gt := gt_in (List.mem_append_right _ (List.mem_of_getElem? (i := 948) (by decide +kernel))) rfl
theorem ck_X10_faultsOf : CkE yX10_faultsOf cX10_faultsOf 5 (some .int) 1 := ⟨gt_in (List.mem_append_right _ (List.mem_of_getElem? (i := 951) (by decide +kernel))) rfl, gt_in (List.mem_append_right _ (List.mem_of_getElem? (i := 13) (by decide +kernel))) rfl, by decide +kernel⟩
theorem win_X10_faultsOf : Cond.instanceMethod yX10_faultsOf ∈ lw_gt := gt_in (List.mem_append_right _ (List.mem_of_getElem? (i := 950) (by decide +kernel))) rfl
theorem wsel_X10_faultsOf : Cond.selects yX10_faultsOf.cls yX10_faultsOf yX10_faultsOf ∈ lw_gt := gt_in (List.mem_append_left _ (List.mem_of_getElem? (i := 35) (by decide +kernel))) rfl
theorem wm_X10_196 : Cond.methodLink RX10 196 yX10_subtitleOf ∈ lw_gt := gt_in (List.mem_append_right _ (List.mem_of_getElem? (i := 928) (by decide +kernel))) rfl
theorem ck_X10_subtitleOf : CkE yX10_subtitleOf cX10_subtitleOf 3 (some .int) 2 := ⟨gt_in (List.mem_append_right _ (List.mem_of_getElem? (i := 931) (by decide +kernel))) rfl, gt_in (List.mem_append_right _ (List.mem_of_getElem? (i := 13) (by decide +kernel))) rfl, by decide +kernel⟩
theorem win_X10_subtitleOf : Cond.instanceMethod yX10_subtitleOf ∈ lw_gt := gt_in (List.mem_append_right _ (List.mem_of_getElem? (i := 930) (by decide +kernel))) rfl
theorem wsel_X10_subtitleOf : Cond.selects yX10_subtitleOf.cls yX10_subtitleOf yX10_subtitleOf ∈ lw_gt := gt_in (List.mem_append_left _ (List.mem_of_getElem? (i := 30) (by decide +kernel))) rfl
theorem wm_X10_199 : Cond.methodLink RX10 199 yX10_partOf ∈ lw_gt := gt_in (List.mem_append_right _ (List.mem_of_getElem? (i := 988) (by decide +kernel))) rfl
theorem ck_X10_partOf : CkE yX10_partOf cX10_partOf 4 (some .int) 2 := ⟨gt_in (List.mem_append_right _ (List.mem_of_getElem? (i := 991) (by decide +kernel))) rfl, gt_in (List.mem_append_right _ (List.mem_of_getElem? (i := 13) (by decide +kernel))) rfl, by decide +kernel⟩
theorem win_X10_partOf : Cond.instanceMethod yX10_partOf ∈ lw_gt := gt_in (List.mem_append_right _ (List.mem_of_getElem? (i := 990) (by decide +kernel))) rfl
theorem wsel_X10_partOf : Cond.selects yX10_partOf.cls yX10_partOf yX10_partOf ∈ lw_gt := gt_in (List.mem_append_left _ (List.mem_of_getElem? (i := 44) (by decide +kernel))) rfl
theorem wm_X10_202 : Cond.methodLink RX10 202 yX10_conforms ∈ lw_gt := gt_in (List.mem_append_right _ (List.mem_of_getElem? (i := 1004) (by decide +kernel))) rfl
theorem ck_X10_conforms : CkE yX10_conforms cX10_conforms 2 (some .boolean) 1 := ⟨gt_in (List.mem_append_right _ (List.mem_of_getElem? (i := 1007) (by decide +kernel))) rfl, gt_in (List.mem_append_right _ (List.mem_of_getElem? (i := 13) (by decide +kernel))) rfl, by decide +kernel⟩
theorem win_X10_conforms : Cond.instanceMethod yX10_conforms ∈ lw_gt := gt_in (List.mem_append_right _ (List.mem_of_getElem? (i := 1006) (by decide +kernel))) rfl
theorem wsel_X10_conforms : Cond.selects yX10_conforms.cls yX10_conforms yX10_conforms ∈ lw_gt := gt_in (List.mem_append_left _ (List.mem_of_getElem? (i := 46) (by decide +kernel))) rfl
theorem wm_X10_205 : Cond.methodLink RX10 205 yX10_wouldBe ∈ lw_gt := gt_in (List.mem_append_right _ (List.mem_of_getElem? (i := 1040) (by decide +kernel))) rfl
theorem ck_X10_wouldBe : CkE yX10_wouldBe cX10_wouldBe 7 (some .int) 2 := ⟨gt_in (List.mem_append_right _ (List.mem_of_getElem? (i := 1043) (by decide +kernel))) rfl, gt_in (List.mem_append_right _ (List.mem_of_getElem? (i := 13) (by decide +kernel))) rfl, by decide +kernel⟩
theorem win_X10_wouldBe : Cond.instanceMethod yX10_wouldBe ∈ lw_gt := gt_in (List.mem_append_right _ (List.mem_of_getElem? (i := 1042) (by decide +kernel))) rfl
theorem wsel_X10_wouldBe : Cond.selects yX10_wouldBe.cls yX10_wouldBe yX10_wouldBe ∈ lw_gt := gt_in (List.mem_append_left _ (List.mem_of_getElem? (i := 54) (by decide +kernel))) rfl
theorem wm_X10_208 : Cond.methodLink RX10 208 yX10_faultsMany ∈ lw_gt := gt_in (List.mem_append_right _ (List.mem_of_getElem? (i := 1056) (by decide +kernel))) rfl
theorem ck_X10_faultsMany : CkE yX10_faultsMany cX10_faultsMany 5 (some .int) 1 := ⟨gt_in (List.mem_append_right _ (List.mem_of_getElem? (i := 1059) (by decide +kernel))) rfl, gt_in (List.mem_append_right _ (List.mem_of_getElem? (i := 13) (by decide +kernel))) rfl, by decide +kernel⟩
theorem win_X10_faultsMany : Cond.instanceMethod yX10_faultsMany ∈ lw_gt := gt_in (List.mem_append_right _ (List.mem_of_getElem? (i := 1058) (by decide +kernel))) rfl
theorem wsel_X10_faultsMany : Cond.selects yX10_faultsMany.cls yX10_faultsMany yX10_faultsMany ∈ lw_gt := gt_in (List.mem_append_left _ (List.mem_of_getElem? (i := 55) (by decide +kernel))) rfl
theorem wm_X10_211 : Cond.methodLink RX10 211 yX10_doubles ∈ lw_gt := gt_in (List.mem_append_right _ (List.mem_of_getElem? (i := 1064) (by decide +kernel))) rfl
theorem ck_X10_doubles : CkE yX10_doubles cX10_doubles 3 (some .int) 0 := ⟨gt_in (List.mem_append_right _ (List.mem_of_getElem? (i := 1067) (by decide +kernel))) rfl, gt_in (List.mem_append_right _ (List.mem_of_getElem? (i := 13) (by decide +kernel))) rfl, by decide +kernel⟩
theorem win_X10_doubles : Cond.instanceMethod yX10_doubles ∈ lw_gt := gt_in (List.mem_append_right _ (List.mem_of_getElem? (i := 1066) (by decide +kernel))) rfl
theorem wsel_X10_doubles : Cond.selects yX10_doubles.cls yX10_doubles yX10_doubles ∈ lw_gt := gt_in (List.mem_append_left _ (List.mem_of_getElem? (i := 56) (by decide +kernel))) rfl
theorem wc_X10_214 : Cond.constantLong RX10 214 (jL 31) ∈ lw_gt := gt_in (List.mem_append_right _ (List.mem_of_getElem? (i := 1077) (by decide +kernel))) rfl
theorem wm_X10_219 : Cond.methodLink RX10 219 yX10_stretches ∈ lw_gt := gt_in (List.mem_append_right _ (List.mem_of_getElem? (i := 1085) (by decide +kernel))) rfl
theorem ck_X10_stretches : CkE yX10_stretches cX10_stretches 2 (some .int) 1 := ⟨gt_in (List.mem_append_right _ (List.mem_of_getElem? (i := 1047) (by decide +kernel))) rfl, gt_in (List.mem_append_right _ (List.mem_of_getElem? (i := 13) (by decide +kernel))) rfl, by decide +kernel⟩
theorem win_X10_stretches : Cond.instanceMethod yX10_stretches ∈ lw_gt := gt_in (List.mem_append_right _ (List.mem_of_getElem? (i := 1045) (by decide +kernel))) rfl
theorem wsel_X10_stretches : Cond.selects yX10_stretches.cls yX10_stretches yX10_stretches ∈ lw_gt := gt_in (List.mem_append_right _ (List.mem_of_getElem? (i := 1046) (by decide +kernel))) rfl
theorem wm_X10_216 : Cond.methodLink RX10 216 yX10_subtitle ∈ lw_gt := gt_in (List.mem_append_right _ (List.mem_of_getElem? (i := 1084) (by decide +kernel))) rfl
theorem ck_X10_subtitle : CkE yX10_subtitle cX10_subtitle 3 (some .int) 2 := ⟨gt_in (List.mem_append_right _ (List.mem_of_getElem? (i := 927) (by decide +kernel))) rfl, gt_in (List.mem_append_right _ (List.mem_of_getElem? (i := 13) (by decide +kernel))) rfl, by decide +kernel⟩
theorem win_X10_subtitle : Cond.instanceMethod yX10_subtitle ∈ lw_gt := gt_in (List.mem_append_right _ (List.mem_of_getElem? (i := 925) (by decide +kernel))) rfl
theorem wsel_X10_subtitle : Cond.selects yX10_subtitle.cls yX10_subtitle yX10_subtitle ∈ lw_gt := gt_in (List.mem_append_right _ (List.mem_of_getElem? (i := 926) (by decide +kernel))) rfl
theorem wc_X10_222 : Cond.constantLong RX10 222 (jL 18771) ∈ lw_gt := gt_in (List.mem_append_right _ (List.mem_of_getElem? (i := 1076) (by decide +kernel))) rfl
theorem wm_X10_234 : Cond.methodLink RX10 234 yX10_faults ∈ lw_gt := gt_in (List.mem_append_right _ (List.mem_of_getElem? (i := 1086) (by decide +kernel))) rfl
theorem ck_X10_faults : CkE yX10_faults cX10_faults 2 (some .int) 1 := ⟨gt_in (List.mem_append_right _ (List.mem_of_getElem? (i := 1055) (by decide +kernel))) rfl, gt_in (List.mem_append_right _ (List.mem_of_getElem? (i := 13) (by decide +kernel))) rfl, by decide +kernel⟩
theorem win_X10_faults : Cond.instanceMethod yX10_faults ∈ lw_gt := gt_in (List.mem_append_right _ (List.mem_of_getElem? (i := 1053) (by decide +kernel))) rfl
theorem wsel_X10_faults : Cond.selects yX10_faults.cls yX10_faults yX10_faults ∈ lw_gt := gt_in (List.mem_append_right _ (List.mem_of_getElem? (i := 1054) (by decide +kernel))) rfl
theorem wm_X10_237 : Cond.methodLink RX10 237 yX10_ifConform ∈ lw_gt := gt_in (List.mem_append_right _ (List.mem_of_getElem? (i := 1087) (by decide +kernel))) rfl
theorem ck_X10_ifConform : CkE yX10_ifConform cX10_ifConform 3 (some .int) 2 := ⟨gt_in (List.mem_append_right _ (List.mem_of_getElem? (i := 1039) (by decide +kernel))) rfl, gt_in (List.mem_append_right _ (List.mem_of_getElem? (i := 13) (by decide +kernel))) rfl, by decide +kernel⟩
theorem win_X10_ifConform : Cond.instanceMethod yX10_ifConform ∈ lw_gt := gt_in (List.mem_append_right _ (List.mem_of_getElem? (i := 1037) (by decide +kernel))) rfl
theorem wsel_X10_ifConform : Cond.selects yX10_ifConform.cls yX10_ifConform yX10_ifConform ∈ lw_gt := gt_in (List.mem_append_right _ (List.mem_of_getElem? (i := 1038) (by decide +kernel))) rfl
theorem wm_X10_230 : Cond.methodLink RX10 230 yX10_mixedSubtitle ∈ lw_gt := gt_in (List.mem_append_right _ (List.mem_of_getElem? (i := 1080) (by decide +kernel))) rfl
theorem ck_X10_mixedSubtitle : CkE yX10_mixedSubtitle cX10_mixedSubtitle 8 (some .long) 2 := ⟨gt_in (List.mem_append_right _ (List.mem_of_getElem? (i := 1083) (by decide +kernel))) rfl, gt_in (List.mem_append_right _ (List.mem_of_getElem? (i := 13) (by decide +kernel))) rfl, by decide +kernel⟩
theorem win_X10_mixedSubtitle : Cond.instanceMethod yX10_mixedSubtitle ∈ lw_gt := gt_in (List.mem_append_right _ (List.mem_of_getElem? (i := 1082) (by decide +kernel))) rfl
theorem wsel_X10_mixedSubtitle : Cond.selects yX10_mixedSubtitle.cls yX10_mixedSubtitle yX10_mixedSubtitle ∈ lw_gt := gt_in (List.mem_append_left _ (List.mem_of_getElem? (i := 57) (by decide +kernel))) rfl
theorem wm_X10_227 : Cond.methodLink RX10 227 yX10_pieceAt ∈ lw_gt := gt_in (List.mem_append_right _ (List.mem_of_getElem? (i := 1079) (by decide +kernel))) rfl
theorem ck_X10_pieceAt : CkE yX10_pieceAt cX10_pieceAt 3 (some .int) 2 := ⟨gt_in (List.mem_append_right _ (List.mem_of_getElem? (i := 836) (by decide +kernel))) rfl, gt_in (List.mem_append_right _ (List.mem_of_getElem? (i := 13) (by decide +kernel))) rfl, by decide +kernel⟩
theorem win_X10_pieceAt : Cond.instanceMethod yX10_pieceAt ∈ lw_gt := gt_in (List.mem_append_right _ (List.mem_of_getElem? (i := 834) (by decide +kernel))) rfl
theorem wsel_X10_pieceAt : Cond.selects yX10_pieceAt.cls yX10_pieceAt yX10_pieceAt ∈ lw_gt := gt_in (List.mem_append_right _ (List.mem_of_getElem? (i := 835) (by decide +kernel))) rfl
theorem wm_X10_224 : Cond.methodLink RX10 224 yX10_told ∈ lw_gt := gt_in (List.mem_append_right _ (List.mem_of_getElem? (i := 1078) (by decide +kernel))) rfl
theorem ck_X10_told : CkE yX10_told cX10_told 2 (some .int) 1 := ⟨gt_in (List.mem_append_right _ (List.mem_of_getElem? (i := 1063) (by decide +kernel))) rfl, gt_in (List.mem_append_right _ (List.mem_of_getElem? (i := 13) (by decide +kernel))) rfl, by decide +kernel⟩
theorem win_X10_told : Cond.instanceMethod yX10_told ∈ lw_gt := gt_in (List.mem_append_right _ (List.mem_of_getElem? (i := 1061) (by decide +kernel))) rfl
theorem wsel_X10_told : Cond.selects yX10_told.cls yX10_told yX10_told ∈ lw_gt := gt_in (List.mem_append_right _ (List.mem_of_getElem? (i := 1062) (by decide +kernel))) rfl
