/-! words of the tables, by their places (printed by wip/whole/gen) -/
theorem wf_X0_18 : Cond.fieldLink RX0 18 "CutConformer$Cut" "count" "I" ∈ lw_gt := gt_in (List.mem_append_right _ (List.mem_of_getElem? (i := 65) (by decide +kernel))) rfl
theorem wf_X0_9 : Cond.fieldLink RX0 9 "CutConformer$Cut" "firsts" "[I" ∈ lw_gt := gt_in (List.mem_append_right _ (List.mem_of_getElem? (i := 63) (by decide +kernel))) rfl
theorem wm_X0_22 : Cond.methodLink RX0 22 arraycopyName ∈ lw_gt := gt_in (List.mem_append_right _ (List.mem_of_getElem? (i := 336) (by decide +kernel))) rfl
theorem wna_copy : Cond.native arraycopyName ∈ lw_gt := gt_in (List.mem_append_right _ (List.mem_of_getElem? (i := 40) (by decide +kernel))) rfl
theorem wst_copy : Cond.static arraycopyName ∈ lw_gt := gt_in (List.mem_append_right _ (List.mem_of_getElem? (i := 39) (by decide +kernel))) rfl
theorem win_System : Cond.initialized "java/lang/System" ∈ lw_gt := gt_in (List.mem_append_right _ (List.mem_of_getElem? (i := 4) (by decide +kernel))) rfl
theorem wf_X0_15 : Cond.fieldLink RX0 15 "CutConformer$Cut" "lengths" "[I" ∈ lw_gt := gt_in (List.mem_append_right _ (List.mem_of_getElem? (i := 64) (by decide +kernel))) rfl
theorem wm_X0_28 : Cond.methodLink RX0 28 yX0_has ∈ lw_gt := gt_in (List.mem_append_right _ (List.mem_of_getElem? (i := 379) (by decide +kernel))) rfl
theorem ck_X0_has : CkE yX0_has cX0_has 2 (some .boolean) 1 := ⟨gt_in (List.mem_append_right _ (List.mem_of_getElem? (i := 382) (by decide +kernel))) rfl, gt_in (List.mem_append_right _ (List.mem_of_getElem? (i := 6) (by decide +kernel))) rfl, by decide +kernel⟩
theorem win_X0_has : Cond.instanceMethod yX0_has ∈ lw_gt := gt_in (List.mem_append_right _ (List.mem_of_getElem? (i := 380) (by decide +kernel))) rfl
theorem wsel_X0_has : Cond.selects yX0_has.cls yX0_has yX0_has ∈ lw_gt := gt_in (List.mem_append_right _ (List.mem_of_getElem? (i := 381) (by decide +kernel))) rfl
theorem wm_X0_32 : Cond.methodLink RX0 32 yX0_startOf ∈ lw_gt := gt_in (List.mem_append_right _ (List.mem_of_getElem? (i := 312) (by decide +kernel))) rfl
theorem ck_X0_startOf : CkE yX0_startOf cX0_startOf 4 (some .int) 1 := ⟨gt_in (List.mem_append_right _ (List.mem_of_getElem? (i := 315) (by decide +kernel))) rfl, gt_in (List.mem_append_right _ (List.mem_of_getElem? (i := 6) (by decide +kernel))) rfl, by decide +kernel⟩
theorem win_X0_startOf : Cond.instanceMethod yX0_startOf ∈ lw_gt := gt_in (List.mem_append_right _ (List.mem_of_getElem? (i := 313) (by decide +kernel))) rfl
theorem wsel_X0_startOf : Cond.selects yX0_startOf.cls yX0_startOf yX0_startOf ∈ lw_gt := gt_in (List.mem_append_right _ (List.mem_of_getElem? (i := 314) (by decide +kernel))) rfl
theorem wf_X1_20 : Cond.fieldLink RX1 20 "CutConformer$History" "count" "I" ∈ lw_gt := gt_in (List.mem_append_right _ (List.mem_of_getElem? (i := 209) (by decide +kernel))) rfl
theorem wf_X1_11 : Cond.fieldLink RX1 11 "CutConformer$History" "states" "[LCutConformer$State;" ∈ lw_gt := gt_in (List.mem_append_right _ (List.mem_of_getElem? (i := 208) (by decide +kernel))) rfl
theorem wf_X4_15 : Cond.fieldLink RX4 15 "CutConformer$Shots" "count" "I" ∈ lw_gt := gt_in (List.mem_append_right _ (List.mem_of_getElem? (i := 81) (by decide +kernel))) rfl
theorem wf_X4_9 : Cond.fieldLink RX4 9 "CutConformer$Shots" "frames" "[I" ∈ lw_gt := gt_in (List.mem_append_right _ (List.mem_of_getElem? (i := 80) (by decide +kernel))) rfl
theorem wm_X4_19 : Cond.methodLink RX4 19 arraycopyName ∈ lw_gt := gt_in (List.mem_append_right _ (List.mem_of_getElem? (i := 341) (by decide +kernel))) rfl
theorem wf_X3_13 : Cond.fieldLink RX3 13 "CutConformer$Settings" "values" "[I" ∈ lw_gt := gt_in (List.mem_append_right _ (List.mem_of_getElem? (i := 96) (by decide +kernel))) rfl
theorem wm_X3_18 : Cond.methodLink RX3 18 arraycopyName ∈ lw_gt := gt_in (List.mem_append_right _ (List.mem_of_getElem? (i := 95) (by decide +kernel))) rfl
theorem wf_X6_16 : Cond.fieldLink RX6 16 "CutConformer$Subtitle" "first" "I" ∈ lw_gt := gt_in (List.mem_append_right _ (List.mem_of_getElem? (i := 113) (by decide +kernel))) rfl
theorem wf_X6_20 : Cond.fieldLink RX6 20 "CutConformer$Subtitle" "end" "I" ∈ lw_gt := gt_in (List.mem_append_right _ (List.mem_of_getElem? (i := 118) (by decide +kernel))) rfl
theorem wf_X6_23 : Cond.fieldLink RX6 23 "CutConformer$Subtitle" "parts" "I" ∈ lw_gt := gt_in (List.mem_append_right _ (List.mem_of_getElem? (i := 123) (by decide +kernel))) rfl
theorem wf_X6_7 : Cond.fieldLink RX6 7 "CutConformer$Subtitle" "one" "LCutConformer$Part;" ∈ lw_gt := gt_in (List.mem_append_right _ (List.mem_of_getElem? (i := 126) (by decide +kernel))) rfl
theorem wf_X6_13 : Cond.fieldLink RX6 13 "CutConformer$Subtitle" "two" "LCutConformer$Part;" ∈ lw_gt := gt_in (List.mem_append_right _ (List.mem_of_getElem? (i := 129) (by decide +kernel))) rfl
theorem wf_X7_24 : Cond.fieldLink RX7 24 "CutConformer$Track" "count" "I" ∈ lw_gt := gt_in (List.mem_append_right _ (List.mem_of_getElem? (i := 144) (by decide +kernel))) rfl
theorem wf_X7_11 : Cond.fieldLink RX7 11 "CutConformer$Track" "rows" "[LCutConformer$Subtitle;" ∈ lw_gt := gt_in (List.mem_append_right _ (List.mem_of_getElem? (i := 142) (by decide +kernel))) rfl
theorem wm_X7_28 : Cond.methodLink RX7 28 yX6_become ∈ lw_gt := gt_in (List.mem_append_right _ (List.mem_of_getElem? (i := 350) (by decide +kernel))) rfl
theorem ck_X6_become : CkE yX6_become cX6_become 2 none 1 := ⟨gt_in (List.mem_append_right _ (List.mem_of_getElem? (i := 353) (by decide +kernel))) rfl, gt_in (List.mem_append_right _ (List.mem_of_getElem? (i := 10) (by decide +kernel))) rfl, by decide +kernel⟩
theorem win_X6_become : Cond.instanceMethod yX6_become ∈ lw_gt := gt_in (List.mem_append_right _ (List.mem_of_getElem? (i := 351) (by decide +kernel))) rfl
theorem wsel_X6_become : Cond.selects yX6_become.cls yX6_become yX6_become ∈ lw_gt := gt_in (List.mem_append_right _ (List.mem_of_getElem? (i := 352) (by decide +kernel))) rfl
theorem wf_X5_12 : Cond.fieldLink RX5 12 "CutConformer$State" "cut" "LCutConformer$Cut;" ∈ lw_gt := gt_in (List.mem_append_right _ (List.mem_of_getElem? (i := 152) (by decide +kernel))) rfl
theorem wm_X5_41 : Cond.methodLink RX5 41 yX0_become ∈ lw_gt := gt_in (List.mem_append_right _ (List.mem_of_getElem? (i := 332) (by decide +kernel))) rfl
theorem ck_X0_become : CkE yX0_become cX0_become 2 none 1 := ⟨gt_in (List.mem_append_right _ (List.mem_of_getElem? (i := 335) (by decide +kernel))) rfl, gt_in (List.mem_append_right _ (List.mem_of_getElem? (i := 6) (by decide +kernel))) rfl, by decide +kernel⟩
theorem win_X0_become : Cond.instanceMethod yX0_become ∈ lw_gt := gt_in (List.mem_append_right _ (List.mem_of_getElem? (i := 333) (by decide +kernel))) rfl
theorem wsel_X0_become : Cond.selects yX0_become.cls yX0_become yX0_become ∈ lw_gt := gt_in (List.mem_append_right _ (List.mem_of_getElem? (i := 334) (by decide +kernel))) rfl
theorem wf_X5_21 : Cond.fieldLink RX5 21 "CutConformer$State" "shots" "LCutConformer$Shots;" ∈ lw_gt := gt_in (List.mem_append_right _ (List.mem_of_getElem? (i := 155) (by decide +kernel))) rfl
theorem wm_X5_45 : Cond.methodLink RX5 45 yX4_become ∈ lw_gt := gt_in (List.mem_append_right _ (List.mem_of_getElem? (i := 337) (by decide +kernel))) rfl
theorem ck_X4_become : CkE yX4_become cX4_become 2 none 1 := ⟨gt_in (List.mem_append_right _ (List.mem_of_getElem? (i := 340) (by decide +kernel))) rfl, gt_in (List.mem_append_right _ (List.mem_of_getElem? (i := 7) (by decide +kernel))) rfl, by decide +kernel⟩
theorem win_X4_become : Cond.instanceMethod yX4_become ∈ lw_gt := gt_in (List.mem_append_right _ (List.mem_of_getElem? (i := 338) (by decide +kernel))) rfl
theorem wsel_X4_become : Cond.selects yX4_become.cls yX4_become yX4_become ∈ lw_gt := gt_in (List.mem_append_right _ (List.mem_of_getElem? (i := 339) (by decide +kernel))) rfl
theorem wf_X5_28 : Cond.fieldLink RX5 28 "CutConformer$State" "settings" "LCutConformer$Settings;" ∈ lw_gt := gt_in (List.mem_append_right _ (List.mem_of_getElem? (i := 158) (by decide +kernel))) rfl
theorem wm_X5_48 : Cond.methodLink RX5 48 yX3_become ∈ lw_gt := gt_in (List.mem_append_right _ (List.mem_of_getElem? (i := 342) (by decide +kernel))) rfl
theorem ck_X3_become : CkE yX3_become cX3_become 2 none 1 := ⟨gt_in (List.mem_append_right _ (List.mem_of_getElem? (i := 345) (by decide +kernel))) rfl, gt_in (List.mem_append_right _ (List.mem_of_getElem? (i := 8) (by decide +kernel))) rfl, by decide +kernel⟩
theorem win_X3_become : Cond.instanceMethod yX3_become ∈ lw_gt := gt_in (List.mem_append_right _ (List.mem_of_getElem? (i := 343) (by decide +kernel))) rfl
theorem wsel_X3_become : Cond.selects yX3_become.cls yX3_become yX3_become ∈ lw_gt := gt_in (List.mem_append_right _ (List.mem_of_getElem? (i := 344) (by decide +kernel))) rfl
theorem wf_X5_37 : Cond.fieldLink RX5 37 "CutConformer$State" "track" "LCutConformer$Track;" ∈ lw_gt := gt_in (List.mem_append_right _ (List.mem_of_getElem? (i := 161) (by decide +kernel))) rfl
theorem wm_X5_51 : Cond.methodLink RX5 51 yX7_become ∈ lw_gt := gt_in (List.mem_append_right _ (List.mem_of_getElem? (i := 346) (by decide +kernel))) rfl
theorem ck_X7_become : CkE yX7_become cX7_become 3 none 1 := ⟨gt_in (List.mem_append_right _ (List.mem_of_getElem? (i := 349) (by decide +kernel))) rfl, gt_in (List.mem_append_right _ (List.mem_of_getElem? (i := 9) (by decide +kernel))) rfl, by decide +kernel⟩
theorem win_X7_become : Cond.instanceMethod yX7_become ∈ lw_gt := gt_in (List.mem_append_right _ (List.mem_of_getElem? (i := 347) (by decide +kernel))) rfl
theorem wsel_X7_become : Cond.selects yX7_become.cls yX7_become yX7_become ∈ lw_gt := gt_in (List.mem_append_right _ (List.mem_of_getElem? (i := 348) (by decide +kernel))) rfl
theorem wm_X1_27 : Cond.methodLink RX1 27 yX5_become ∈ lw_gt := gt_in (List.mem_append_right _ (List.mem_of_getElem? (i := 497) (by decide +kernel))) rfl
theorem ck_X5_become : CkE yX5_become cX5_become 2 none 1 := ⟨gt_in (List.mem_append_right _ (List.mem_of_getElem? (i := 331) (by decide +kernel))) rfl, gt_in (List.mem_append_right _ (List.mem_of_getElem? (i := 5) (by decide +kernel))) rfl, by decide +kernel⟩
theorem win_X5_become : Cond.instanceMethod yX5_become ∈ lw_gt := gt_in (List.mem_append_right _ (List.mem_of_getElem? (i := 329) (by decide +kernel))) rfl
theorem wsel_X5_become : Cond.selects yX5_become.cls yX5_become yX5_become ∈ lw_gt := gt_in (List.mem_append_right _ (List.mem_of_getElem? (i := 330) (by decide +kernel))) rfl
theorem wm_X1_24 : Cond.methodLink RX1 24 yX1_forgetOldest ∈ lw_gt := gt_in (List.mem_append_right _ (List.mem_of_getElem? (i := 514) (by decide +kernel))) rfl
theorem ck_X1_forgetOldest : CkE yX1_forgetOldest cX1_forgetOldest 3 none 0 := ⟨gt_in (List.mem_append_right _ (List.mem_of_getElem? (i := 517) (by decide +kernel))) rfl, gt_in (List.mem_append_right _ (List.mem_of_getElem? (i := 12) (by decide +kernel))) rfl, by decide +kernel⟩
theorem win_X1_forgetOldest : Cond.instanceMethod yX1_forgetOldest ∈ lw_gt := gt_in (List.mem_append_right _ (List.mem_of_getElem? (i := 516) (by decide +kernel))) rfl
theorem wsel_X1_forgetOldest : Cond.selects yX1_forgetOldest.cls yX1_forgetOldest yX1_forgetOldest ∈ lw_gt := gt_in (List.mem_append_left _ (List.mem_of_getElem? (i := 9) (by decide +kernel))) rfl
theorem wf_X2_24 : Cond.fieldLink RX2 24 "CutConformer$Part" "text" "[B" ∈ lw_gt := gt_in (List.mem_append_right _ (List.mem_of_getElem? (i := 44) (by decide +kernel))) rfl
theorem wm_X2_54 : Cond.methodLink RX2 54 yJ0_length_8abf5 ∈ lw_gt := gt_in (List.mem_append_right _ (List.mem_of_getElem? (i := 658) (by decide +kernel))) rfl
theorem wm_X2_41 : Cond.methodLink RX2 41 yX2_byteAt ∈ lw_gt := gt_in (List.mem_append_right _ (List.mem_of_getElem? (i := 652) (by decide +kernel))) rfl
theorem ck_X2_byteAt : CkE yX2_byteAt cX2_byteAt 2 (some .int) 1 := ⟨gt_in (List.mem_append_right _ (List.mem_of_getElem? (i := 642) (by decide +kernel))) rfl, gt_in (List.mem_append_right _ (List.mem_of_getElem? (i := 2) (by decide +kernel))) rfl, by decide +kernel⟩
theorem win_X2_byteAt : Cond.instanceMethod yX2_byteAt ∈ lw_gt := gt_in (List.mem_append_right _ (List.mem_of_getElem? (i := 640) (by decide +kernel))) rfl
theorem wsel_X2_byteAt : Cond.selects yX2_byteAt.cls yX2_byteAt yX2_byteAt ∈ lw_gt := gt_in (List.mem_append_right _ (List.mem_of_getElem? (i := 641) (by decide +kernel))) rfl
theorem wm_X2_60 : Cond.methodLink RX2 60 yJ0_charAt_5068e ∈ lw_gt := gt_in (List.mem_append_right _ (List.mem_of_getElem? (i := 668) (by decide +kernel))) rfl
theorem wm_X2_46 : Cond.methodLink RX2 46 yX2_isWord ∈ lw_gt := gt_in (List.mem_append_right _ (List.mem_of_getElem? (i := 654) (by decide +kernel))) rfl
theorem ck_X2_isWord : CkE yX2_isWord cX2_isWord 4 (some .boolean) 2 := ⟨gt_in (List.mem_append_right _ (List.mem_of_getElem? (i := 657) (by decide +kernel))) rfl, gt_in (List.mem_append_right _ (List.mem_of_getElem? (i := 2) (by decide +kernel))) rfl, by decide +kernel⟩
theorem win_X2_isWord : Cond.instanceMethod yX2_isWord ∈ lw_gt := gt_in (List.mem_append_right _ (List.mem_of_getElem? (i := 656) (by decide +kernel))) rfl
theorem wsel_X2_isWord : Cond.selects yX2_isWord.cls yX2_isWord yX2_isWord ∈ lw_gt := gt_in (List.mem_append_left _ (List.mem_of_getElem? (i := 11) (by decide +kernel))) rfl
theorem wm_X2_34 : Cond.methodLink RX2 34 yX2_longerLine ∈ lw_gt := gt_in (List.mem_append_right _ (List.mem_of_getElem? (i := 304) (by decide +kernel))) rfl
theorem ck_X2_longerLine : CkE yX2_longerLine cX2_longerLine 3 (some .int) 1 := ⟨gt_in (List.mem_append_right _ (List.mem_of_getElem? (i := 307) (by decide +kernel))) rfl, gt_in (List.mem_append_right _ (List.mem_of_getElem? (i := 2) (by decide +kernel))) rfl, by decide +kernel⟩
theorem win_X2_longerLine : Cond.instanceMethod yX2_longerLine ∈ lw_gt := gt_in (List.mem_append_right _ (List.mem_of_getElem? (i := 306) (by decide +kernel))) rfl
theorem wsel_X2_longerLine : Cond.selects yX2_longerLine.cls yX2_longerLine yX2_longerLine ∈ lw_gt := gt_in (List.mem_append_left _ (List.mem_of_getElem? (i := 0) (by decide +kernel))) rfl
theorem wm_X2_38 : Cond.methodLink RX2 38 yX2_rankOf ∈ lw_gt := gt_in (List.mem_append_right _ (List.mem_of_getElem? (i := 648) (by decide +kernel))) rfl
theorem ck_X2_rankOf : CkE yX2_rankOf cX2_rankOf 4 (some .int) 1 := ⟨gt_in (List.mem_append_right _ (List.mem_of_getElem? (i := 651) (by decide +kernel))) rfl, gt_in (List.mem_append_right _ (List.mem_of_getElem? (i := 2) (by decide +kernel))) rfl, by decide +kernel⟩
theorem win_X2_rankOf : Cond.instanceMethod yX2_rankOf ∈ lw_gt := gt_in (List.mem_append_right _ (List.mem_of_getElem? (i := 649) (by decide +kernel))) rfl
theorem wsel_X2_rankOf : Cond.selects yX2_rankOf.cls yX2_rankOf yX2_rankOf ∈ lw_gt := gt_in (List.mem_append_right _ (List.mem_of_getElem? (i := 650) (by decide +kernel))) rfl
theorem wm_X4_29 : Cond.methodLink RX4 29 Lib.Math.abs.name ∈ lw_gt := gt_in (List.mem_append_right _ (List.mem_of_getElem? (i := 293) (by decide +kernel))) rfl
theorem wst_abs : Cond.static Lib.Math.abs.name ∈ lw_gt := gt_in (List.mem_append_right _ (List.mem_of_getElem? (i := 294) (by decide +kernel))) rfl
theorem win_Math : Cond.initialized "java/lang/Math" ∈ lw_gt := gt_in (List.mem_append_right _ (List.mem_of_getElem? (i := 3) (by decide +kernel))) rfl
theorem wco_abs : Cond.code Lib.Math.abs.name Lib.Math.abs.code 1 (some .int) ∈ lw_gt := gt_in (List.mem_append_right _ (List.mem_of_getElem? (i := 295) (by decide +kernel))) rfl
theorem wm_X4_25 : Cond.methodLink RX4 25 yX4_nearest ∈ lw_gt := gt_in (List.mem_append_right _ (List.mem_of_getElem? (i := 289) (by decide +kernel))) rfl
theorem ck_X4_nearest : CkE yX4_nearest cX4_nearest 7 (some .int) 2 := ⟨gt_in (List.mem_append_right _ (List.mem_of_getElem? (i := 292) (by decide +kernel))) rfl, gt_in (List.mem_append_right _ (List.mem_of_getElem? (i := 7) (by decide +kernel))) rfl, by decide +kernel⟩
theorem win_X4_nearest : Cond.instanceMethod yX4_nearest ∈ lw_gt := gt_in (List.mem_append_right _ (List.mem_of_getElem? (i := 290) (by decide +kernel))) rfl
theorem wsel_X4_nearest : Cond.selects yX4_nearest.cls yX4_nearest yX4_nearest ∈ lw_gt := gt_in (List.mem_append_right _ (List.mem_of_getElem? (i := 291) (by decide +kernel))) rfl
theorem wm_X4_35 : Cond.methodLink RX4 35 yX4_has ∈ lw_gt := gt_in (List.mem_append_right _ (List.mem_of_getElem? (i := 534) (by decide +kernel))) rfl
theorem ck_X4_has : CkE yX4_has cX4_has 2 (some .boolean) 1 := ⟨gt_in (List.mem_append_right _ (List.mem_of_getElem? (i := 529) (by decide +kernel))) rfl, gt_in (List.mem_append_right _ (List.mem_of_getElem? (i := 7) (by decide +kernel))) rfl, by decide +kernel⟩
theorem win_X4_has : Cond.instanceMethod yX4_has ∈ lw_gt := gt_in (List.mem_append_right _ (List.mem_of_getElem? (i := 527) (by decide +kernel))) rfl
theorem wsel_X4_has : Cond.selects yX4_has.cls yX4_has yX4_has ∈ lw_gt := gt_in (List.mem_append_right _ (List.mem_of_getElem? (i := 528) (by decide +kernel))) rfl
theorem wm_X6_26 : Cond.methodLink RX6 26 yX2_bytes ∈ lw_gt := gt_in (List.mem_append_right _ (List.mem_of_getElem? (i := 248) (by decide +kernel))) rfl
theorem ck_X2_bytes : CkE yX2_bytes cX2_bytes 1 (some .int) 0 := ⟨gt_in (List.mem_append_right _ (List.mem_of_getElem? (i := 251) (by decide +kernel))) rfl, gt_in (List.mem_append_right _ (List.mem_of_getElem? (i := 2) (by decide +kernel))) rfl, by decide +kernel⟩
theorem win_X2_bytes : Cond.instanceMethod yX2_bytes ∈ lw_gt := gt_in (List.mem_append_right _ (List.mem_of_getElem? (i := 249) (by decide +kernel))) rfl
theorem wsel_X2_bytes : Cond.selects yX2_bytes.cls yX2_bytes yX2_bytes ∈ lw_gt := gt_in (List.mem_append_right _ (List.mem_of_getElem? (i := 250) (by decide +kernel))) rfl
theorem wm_X5_54 : Cond.methodLink RX5 54 yX3_at ∈ lw_gt := gt_in (List.mem_append_right _ (List.mem_of_getElem? (i := 256) (by decide +kernel))) rfl
theorem ck_X3_at : CkE yX3_at cX3_at 2 (some .int) 1 := ⟨gt_in (List.mem_append_right _ (List.mem_of_getElem? (i := 259) (by decide +kernel))) rfl, gt_in (List.mem_append_right _ (List.mem_of_getElem? (i := 8) (by decide +kernel))) rfl, by decide +kernel⟩
theorem win_X3_at : Cond.instanceMethod yX3_at ∈ lw_gt := gt_in (List.mem_append_right _ (List.mem_of_getElem? (i := 257) (by decide +kernel))) rfl
theorem wsel_X3_at : Cond.selects yX3_at.cls yX3_at yX3_at ∈ lw_gt := gt_in (List.mem_append_right _ (List.mem_of_getElem? (i := 258) (by decide +kernel))) rfl
theorem wm_X5_58 : Cond.methodLink RX5 58 yX6_characters ∈ lw_gt := gt_in (List.mem_append_right _ (List.mem_of_getElem? (i := 260) (by decide +kernel))) rfl
theorem ck_X6_characters : CkE yX6_characters cX6_characters 1 (some .int) 0 := ⟨gt_in (List.mem_append_right _ (List.mem_of_getElem? (i := 247) (by decide +kernel))) rfl, gt_in (List.mem_append_right _ (List.mem_of_getElem? (i := 10) (by decide +kernel))) rfl, by decide +kernel⟩
theorem win_X6_characters : Cond.instanceMethod yX6_characters ∈ lw_gt := gt_in (List.mem_append_right _ (List.mem_of_getElem? (i := 245) (by decide +kernel))) rfl
theorem wsel_X6_characters : Cond.selects yX6_characters.cls yX6_characters yX6_characters ∈ lw_gt := gt_in (List.mem_append_right _ (List.mem_of_getElem? (i := 246) (by decide +kernel))) rfl
theorem wm_X5_64 : Cond.methodLink RX5 64 Lib.Math.max.name ∈ lw_gt := gt_in (List.mem_append_right _ (List.mem_of_getElem? (i := 261) (by decide +kernel))) rfl
theorem wst_max : Cond.static Lib.Math.max.name ∈ lw_gt := gt_in (List.mem_append_right _ (List.mem_of_getElem? (i := 36) (by decide +kernel))) rfl
theorem wco_max : Cond.code Lib.Math.max.name Lib.Math.max.code 2 (some .int) ∈ lw_gt := gt_in (List.mem_append_right _ (List.mem_of_getElem? (i := 37) (by decide +kernel))) rfl
theorem wm_X7_32 : Cond.methodLink RX7 32 yX7_has ∈ lw_gt := gt_in (List.mem_append_right _ (List.mem_of_getElem? (i := 243) (by decide +kernel))) rfl
theorem ck_X7_has : CkE yX7_has cX7_has 2 (some .boolean) 1 := ⟨gt_in (List.mem_append_right _ (List.mem_of_getElem? (i := 238) (by decide +kernel))) rfl, gt_in (List.mem_append_right _ (List.mem_of_getElem? (i := 9) (by decide +kernel))) rfl, by decide +kernel⟩
theorem win_X7_has : Cond.instanceMethod yX7_has ∈ lw_gt := gt_in (List.mem_append_right _ (List.mem_of_getElem? (i := 236) (by decide +kernel))) rfl
theorem wsel_X7_has : Cond.selects yX7_has.cls yX7_has yX7_has ∈ lw_gt := gt_in (List.mem_append_right _ (List.mem_of_getElem? (i := 237) (by decide +kernel))) rfl
theorem wf_X7_40 : Cond.fieldLink RX7 40 "CutConformer$Subtitle" "first" "I" ∈ lw_gt := gt_in (List.mem_append_right _ (List.mem_of_getElem? (i := 116) (by decide +kernel))) rfl
theorem wf_X7_20 : Cond.fieldLink RX7 20 "CutConformer$Track" "missing" "LCutConformer$Subtitle;" ∈ lw_gt := gt_in (List.mem_append_right _ (List.mem_of_getElem? (i := 143) (by decide +kernel))) rfl
theorem wm_X5_70 : Cond.methodLink RX5 70 yX7_next ∈ lw_gt := gt_in (List.mem_append_right _ (List.mem_of_getElem? (i := 276) (by decide +kernel))) rfl
theorem ck_X7_next : CkE yX7_next cX7_next 3 (some .int) 1 := ⟨gt_in (List.mem_append_right _ (List.mem_of_getElem? (i := 279) (by decide +kernel))) rfl, gt_in (List.mem_append_right _ (List.mem_of_getElem? (i := 9) (by decide +kernel))) rfl, by decide +kernel⟩
theorem win_X7_next : Cond.instanceMethod yX7_next ∈ lw_gt := gt_in (List.mem_append_right _ (List.mem_of_getElem? (i := 277) (by decide +kernel))) rfl
theorem wsel_X7_next : Cond.selects yX7_next.cls yX7_next yX7_next ∈ lw_gt := gt_in (List.mem_append_right _ (List.mem_of_getElem? (i := 278) (by decide +kernel))) rfl
theorem wm_X5_73 : Cond.methodLink RX5 73 yX7_at ∈ lw_gt := gt_in (List.mem_append_right _ (List.mem_of_getElem? (i := 266) (by decide +kernel))) rfl
theorem ck_X7_at : CkE yX7_at cX7_at 2 (some (.object "CutConformer$Subtitle")) 1 := ⟨gt_in (List.mem_append_right _ (List.mem_of_getElem? (i := 242) (by decide +kernel))) rfl, gt_in (List.mem_append_right _ (List.mem_of_getElem? (i := 9) (by decide +kernel))) rfl, by decide +kernel⟩
theorem win_X7_at : Cond.instanceMethod yX7_at ∈ lw_gt := gt_in (List.mem_append_right _ (List.mem_of_getElem? (i := 240) (by decide +kernel))) rfl
theorem wsel_X7_at : Cond.selects yX7_at.cls yX7_at yX7_at ∈ lw_gt := gt_in (List.mem_append_right _ (List.mem_of_getElem? (i := 241) (by decide +kernel))) rfl
theorem wf_X5_76 : Cond.fieldLink RX5 76 "CutConformer$Subtitle" "first" "I" ∈ lw_gt := gt_in (List.mem_append_right _ (List.mem_of_getElem? (i := 114) (by decide +kernel))) rfl
theorem wm_X7_61 : Cond.methodLink RX7 61 yX7_at ∈ lw_gt := gt_in (List.mem_append_right _ (List.mem_of_getElem? (i := 284) (by decide +kernel))) rfl
theorem wm_X6_32 : Cond.methodLink RX6 32 yX2_isTooWide ∈ lw_gt := gt_in (List.mem_append_right _ (List.mem_of_getElem? (i := 300) (by decide +kernel))) rfl
theorem ck_X2_isTooWide : CkE yX2_isTooWide cX2_isTooWide 4 (some .boolean) 1 := ⟨gt_in (List.mem_append_right _ (List.mem_of_getElem? (i := 303) (by decide +kernel))) rfl, gt_in (List.mem_append_right _ (List.mem_of_getElem? (i := 2) (by decide +kernel))) rfl, by decide +kernel⟩
theorem win_X2_isTooWide : Cond.instanceMethod yX2_isTooWide ∈ lw_gt := gt_in (List.mem_append_right _ (List.mem_of_getElem? (i := 301) (by decide +kernel))) rfl
theorem wsel_X2_isTooWide : Cond.selects yX2_isTooWide.cls yX2_isTooWide yX2_isTooWide ∈ lw_gt := gt_in (List.mem_append_right _ (List.mem_of_getElem? (i := 302) (by decide +kernel))) rfl
theorem wm_X5_80 : Cond.methodLink RX5 80 yX6_length ∈ lw_gt := gt_in (List.mem_append_right _ (List.mem_of_getElem? (i := 267) (by decide +kernel))) rfl
theorem ck_X6_length : CkE yX6_length cX6_length 1 (some .int) 0 := ⟨gt_in (List.mem_append_right _ (List.mem_of_getElem? (i := 270) (by decide +kernel))) rfl, gt_in (List.mem_append_right _ (List.mem_of_getElem? (i := 10) (by decide +kernel))) rfl, by decide +kernel⟩
theorem win_X6_length : Cond.instanceMethod yX6_length ∈ lw_gt := gt_in (List.mem_append_right _ (List.mem_of_getElem? (i := 268) (by decide +kernel))) rfl
theorem wsel_X6_length : Cond.selects yX6_length.cls yX6_length yX6_length ∈ lw_gt := gt_in (List.mem_append_right _ (List.mem_of_getElem? (i := 269) (by decide +kernel))) rfl
theorem wm_X5_83 : Cond.methodLink RX5 83 yX5_readingLength ∈ lw_gt := gt_in (List.mem_append_right _ (List.mem_of_getElem? (i := 271) (by decide +kernel))) rfl
theorem ck_X5_readingLength : CkE yX5_readingLength cX5_readingLength 3 (some .int) 1 := ⟨gt_in (List.mem_append_right _ (List.mem_of_getElem? (i := 255) (by decide +kernel))) rfl, gt_in (List.mem_append_right _ (List.mem_of_getElem? (i := 5) (by decide +kernel))) rfl, by decide +kernel⟩
theorem win_X5_readingLength : Cond.instanceMethod yX5_readingLength ∈ lw_gt := gt_in (List.mem_append_right _ (List.mem_of_getElem? (i := 253) (by decide +kernel))) rfl
theorem wsel_X5_readingLength : Cond.selects yX5_readingLength.cls yX5_readingLength yX5_readingLength ∈ lw_gt := gt_in (List.mem_append_right _ (List.mem_of_getElem? (i := 254) (by decide +kernel))) rfl
theorem wf_X5_87 : Cond.fieldLink RX5 87 "CutConformer$Subtitle" "end" "I" ∈ lw_gt := gt_in (List.mem_append_right _ (List.mem_of_getElem? (i := 119) (by decide +kernel))) rfl
theorem wm_X5_90 : Cond.methodLink RX5 90 yX5_latestEnd ∈ lw_gt := gt_in (List.mem_append_right _ (List.mem_of_getElem? (i := 272) (by decide +kernel))) rfl
theorem ck_X5_latestEnd : CkE yX5_latestEnd cX5_latestEnd 3 (some .int) 1 := ⟨gt_in (List.mem_append_right _ (List.mem_of_getElem? (i := 275) (by decide +kernel))) rfl, gt_in (List.mem_append_right _ (List.mem_of_getElem? (i := 5) (by decide +kernel))) rfl, by decide +kernel⟩
theorem win_X5_latestEnd : Cond.instanceMethod yX5_latestEnd ∈ lw_gt := gt_in (List.mem_append_right _ (List.mem_of_getElem? (i := 273) (by decide +kernel))) rfl
theorem wsel_X5_latestEnd : Cond.selects yX5_latestEnd.cls yX5_latestEnd yX5_latestEnd ∈ lw_gt := gt_in (List.mem_append_right _ (List.mem_of_getElem? (i := 274) (by decide +kernel))) rfl
theorem wm_X5_93 : Cond.methodLink RX5 93 yX7_sharesFirst ∈ lw_gt := gt_in (List.mem_append_right _ (List.mem_of_getElem? (i := 280) (by decide +kernel))) rfl
theorem ck_X7_sharesFirst : CkE yX7_sharesFirst cX7_sharesFirst 3 (some .boolean) 1 := ⟨gt_in (List.mem_append_right _ (List.mem_of_getElem? (i := 283) (by decide +kernel))) rfl, gt_in (List.mem_append_right _ (List.mem_of_getElem? (i := 9) (by decide +kernel))) rfl, by decide +kernel⟩
theorem win_X7_sharesFirst : Cond.instanceMethod yX7_sharesFirst ∈ lw_gt := gt_in (List.mem_append_right _ (List.mem_of_getElem? (i := 281) (by decide +kernel))) rfl
theorem wsel_X7_sharesFirst : Cond.selects yX7_sharesFirst.cls yX7_sharesFirst yX7_sharesFirst ∈ lw_gt := gt_in (List.mem_append_right _ (List.mem_of_getElem? (i := 282) (by decide +kernel))) rfl
theorem wm_X5_97 : Cond.methodLink RX5 97 yX4_isMissed ∈ lw_gt := gt_in (List.mem_append_right _ (List.mem_of_getElem? (i := 285) (by decide +kernel))) rfl
theorem ck_X4_isMissed : CkE yX4_isMissed cX4_isMissed 4 (some .boolean) 2 := ⟨gt_in (List.mem_append_right _ (List.mem_of_getElem? (i := 288) (by decide +kernel))) rfl, gt_in (List.mem_append_right _ (List.mem_of_getElem? (i := 7) (by decide +kernel))) rfl, by decide +kernel⟩
theorem win_X4_isMissed : Cond.instanceMethod yX4_isMissed ∈ lw_gt := gt_in (List.mem_append_right _ (List.mem_of_getElem? (i := 286) (by decide +kernel))) rfl
theorem wsel_X4_isMissed : Cond.selects yX4_isMissed.cls yX4_isMissed yX4_isMissed ∈ lw_gt := gt_in (List.mem_append_right _ (List.mem_of_getElem? (i := 287) (by decide +kernel))) rfl
theorem wm_X5_101 : Cond.methodLink RX5 101 yX6_isTooWide ∈ lw_gt := gt_in (List.mem_append_right _ (List.mem_of_getElem? (i := 296) (by decide +kernel))) rfl
theorem ck_X6_isTooWide : CkE yX6_isTooWide cX6_isTooWide 2 (some .boolean) 1 := ⟨gt_in (List.mem_append_right _ (List.mem_of_getElem? (i := 299) (by decide +kernel))) rfl, gt_in (List.mem_append_right _ (List.mem_of_getElem? (i := 10) (by decide +kernel))) rfl, by decide +kernel⟩
theorem win_X6_isTooWide : Cond.instanceMethod yX6_isTooWide ∈ lw_gt := gt_in (List.mem_append_right _ (List.mem_of_getElem? (i := 297) (by decide +kernel))) rfl
theorem wsel_X6_isTooWide : Cond.selects yX6_isTooWide.cls yX6_isTooWide yX6_isTooWide ∈ lw_gt := gt_in (List.mem_append_right _ (List.mem_of_getElem? (i := 298) (by decide +kernel))) rfl
theorem wm_X5_104 : Cond.methodLink RX5 104 yX0_frames ∈ lw_gt := gt_in (List.mem_append_right _ (List.mem_of_getElem? (i := 308) (by decide +kernel))) rfl
theorem ck_X0_frames : CkE yX0_frames cX0_frames 1 (some .int) 0 := ⟨gt_in (List.mem_append_right _ (List.mem_of_getElem? (i := 311) (by decide +kernel))) rfl, gt_in (List.mem_append_right _ (List.mem_of_getElem? (i := 6) (by decide +kernel))) rfl, by decide +kernel⟩
theorem win_X0_frames : Cond.instanceMethod yX0_frames ∈ lw_gt := gt_in (List.mem_append_right _ (List.mem_of_getElem? (i := 309) (by decide +kernel))) rfl
theorem wsel_X0_frames : Cond.selects yX0_frames.cls yX0_frames yX0_frames ∈ lw_gt := gt_in (List.mem_append_right _ (List.mem_of_getElem? (i := 310) (by decide +kernel))) rfl
theorem wm_X5_107 : Cond.methodLink RX5 107 yX7_size ∈ lw_gt := gt_in (List.mem_append_right _ (List.mem_of_getElem? (i := 455) (by decide +kernel))) rfl
theorem ck_X7_size : CkE yX7_size cX7_size 1 (some .int) 0 := ⟨gt_in (List.mem_append_right _ (List.mem_of_getElem? (i := 365) (by decide +kernel))) rfl, gt_in (List.mem_append_right _ (List.mem_of_getElem? (i := 9) (by decide +kernel))) rfl, by decide +kernel⟩
theorem win_X7_size : Cond.instanceMethod yX7_size ∈ lw_gt := gt_in (List.mem_append_right _ (List.mem_of_getElem? (i := 363) (by decide +kernel))) rfl
theorem wsel_X7_size : Cond.selects yX7_size.cls yX7_size yX7_size ∈ lw_gt := gt_in (List.mem_append_right _ (List.mem_of_getElem? (i := 364) (by decide +kernel))) rfl
theorem wm_X5_110 : Cond.methodLink RX5 110 yX5_faultsOf ∈ lw_gt := gt_in (List.mem_append_right _ (List.mem_of_getElem? (i := 456) (by decide +kernel))) rfl
theorem ck_X5_faultsOf : CkE yX5_faultsOf cX5_faultsOf 5 (some .int) 1 := ⟨gt_in (List.mem_append_right _ (List.mem_of_getElem? (i := 265) (by decide +kernel))) rfl, gt_in (List.mem_append_right _ (List.mem_of_getElem? (i := 5) (by decide +kernel))) rfl, by decide +kernel⟩
theorem win_X5_faultsOf : Cond.instanceMethod yX5_faultsOf ∈ lw_gt := gt_in (List.mem_append_right _ (List.mem_of_getElem? (i := 263) (by decide +kernel))) rfl
theorem wsel_X5_faultsOf : Cond.selects yX5_faultsOf.cls yX5_faultsOf yX5_faultsOf ∈ lw_gt := gt_in (List.mem_append_right _ (List.mem_of_getElem? (i := 264) (by decide +kernel))) rfl
theorem wf_X6_36 : Cond.fieldLink RX6 36 "CutConformer$Part" "speaker" "I" ∈ lw_gt := gt_in (List.mem_append_right _ (List.mem_of_getElem? (i := 42) (by decide +kernel))) rfl
theorem wm_X6_39 : Cond.methodLink RX6 39 Lib.Math.min.name ∈ lw_gt := gt_in (List.mem_append_right _ (List.mem_of_getElem? (i := 413) (by decide +kernel))) rfl
theorem wst_min : Cond.static Lib.Math.min.name ∈ lw_gt := gt_in (List.mem_append_right _ (List.mem_of_getElem? (i := 33) (by decide +kernel))) rfl
theorem wco_min : Cond.code Lib.Math.min.name Lib.Math.min.code 2 (some .int) ∈ lw_gt := gt_in (List.mem_append_right _ (List.mem_of_getElem? (i := 34) (by decide +kernel))) rfl
theorem wm_X6_45 : Cond.methodLink RX6 45 Lib.Math.max.name ∈ lw_gt := gt_in (List.mem_append_right _ (List.mem_of_getElem? (i := 414) (by decide +kernel))) rfl
theorem wm_X6_48 : Cond.methodLink RX6 48 yX6_length ∈ lw_gt := gt_in (List.mem_append_right _ (List.mem_of_getElem? (i := 415) (by decide +kernel))) rfl
theorem wm_X7_36 : Cond.methodLink RX7 36 yX7_isFull ∈ lw_gt := gt_in (List.mem_append_right _ (List.mem_of_getElem? (i := 397) (by decide +kernel))) rfl
theorem ck_X7_isFull : CkE yX7_isFull cX7_isFull 1 (some .boolean) 0 := ⟨gt_in (List.mem_append_right _ (List.mem_of_getElem? (i := 400) (by decide +kernel))) rfl, gt_in (List.mem_append_right _ (List.mem_of_getElem? (i := 9) (by decide +kernel))) rfl, by decide +kernel⟩
theorem win_X7_isFull : Cond.instanceMethod yX7_isFull ∈ lw_gt := gt_in (List.mem_append_right _ (List.mem_of_getElem? (i := 398) (by decide +kernel))) rfl
theorem wsel_X7_isFull : Cond.selects yX7_isFull.cls yX7_isFull yX7_isFull ∈ lw_gt := gt_in (List.mem_append_right _ (List.mem_of_getElem? (i := 399) (by decide +kernel))) rfl
theorem wf_X7_43 : Cond.fieldLink RX7 43 "CutConformer$Subtitle" "end" "I" ∈ lw_gt := gt_in (List.mem_append_right _ (List.mem_of_getElem? (i := 121) (by decide +kernel))) rfl
theorem wf_X7_46 : Cond.fieldLink RX7 46 "CutConformer$Subtitle" "parts" "I" ∈ lw_gt := gt_in (List.mem_append_right _ (List.mem_of_getElem? (i := 124) (by decide +kernel))) rfl
theorem wf_X7_49 : Cond.fieldLink RX7 49 "CutConformer$Subtitle" "one" "LCutConformer$Part;" ∈ lw_gt := gt_in (List.mem_append_right _ (List.mem_of_getElem? (i := 127) (by decide +kernel))) rfl
theorem wm_X7_53 : Cond.methodLink RX7 53 yX7_settle ∈ lw_gt := gt_in (List.mem_append_right _ (List.mem_of_getElem? (i := 401) (by decide +kernel))) rfl
theorem ck_X7_settle : CkE yX7_settle cX7_settle 4 (some .int) 1 := ⟨gt_in (List.mem_append_right _ (List.mem_of_getElem? (i := 404) (by decide +kernel))) rfl, gt_in (List.mem_append_right _ (List.mem_of_getElem? (i := 9) (by decide +kernel))) rfl, by decide +kernel⟩
theorem win_X7_settle : Cond.instanceMethod yX7_settle ∈ lw_gt := gt_in (List.mem_append_right _ (List.mem_of_getElem? (i := 403) (by decide +kernel))) rfl
theorem wsel_X7_settle : Cond.selects yX7_settle.cls yX7_settle yX7_settle ∈ lw_gt := gt_in (List.mem_append_left _ (List.mem_of_getElem? (i := 4) (by decide +kernel))) rfl
theorem wm_X7_65 : Cond.methodLink RX7 65 yX6_length ∈ lw_gt := gt_in (List.mem_append_right _ (List.mem_of_getElem? (i := 450) (by decide +kernel))) rfl
theorem wm_X7_69 : Cond.methodLink RX7 69 Lib.Math.max.name ∈ lw_gt := gt_in (List.mem_append_right _ (List.mem_of_getElem? (i := 461) (by decide +kernel))) rfl
theorem wf_X8_55 : Cond.fieldLink RX8 55 "CutConformer$Trial" "found" "I" ∈ lw_gt := gt_in (List.mem_append_right _ (List.mem_of_getElem? (i := 187) (by decide +kernel))) rfl
theorem wf_X8_9 : Cond.fieldLink RX8 9 "CutConformer$Trial" "begins" "[I" ∈ lw_gt := gt_in (List.mem_append_right _ (List.mem_of_getElem? (i := 185) (by decide +kernel))) rfl
theorem wf_X8_15 : Cond.fieldLink RX8 15 "CutConformer$Trial" "ends" "[I" ∈ lw_gt := gt_in (List.mem_append_right _ (List.mem_of_getElem? (i := 186) (by decide +kernel))) rfl
theorem wm_X8_83 : Cond.methodLink RX8 83 yX0_size ∈ lw_gt := gt_in (List.mem_append_right _ (List.mem_of_getElem? (i := 371) (by decide +kernel))) rfl
theorem ck_X0_size : CkE yX0_size cX0_size 1 (some .int) 0 := ⟨gt_in (List.mem_append_right _ (List.mem_of_getElem? (i := 374) (by decide +kernel))) rfl, gt_in (List.mem_append_right _ (List.mem_of_getElem? (i := 6) (by decide +kernel))) rfl, by decide +kernel⟩
theorem win_X0_size : Cond.instanceMethod yX0_size ∈ lw_gt := gt_in (List.mem_append_right _ (List.mem_of_getElem? (i := 372) (by decide +kernel))) rfl
theorem wsel_X0_size : Cond.selects yX0_size.cls yX0_size yX0_size ∈ lw_gt := gt_in (List.mem_append_right _ (List.mem_of_getElem? (i := 373) (by decide +kernel))) rfl
theorem wm_X8_86 : Cond.methodLink RX8 86 yX0_firstOf ∈ lw_gt := gt_in (List.mem_append_right _ (List.mem_of_getElem? (i := 375) (by decide +kernel))) rfl
theorem ck_X0_firstOf : CkE yX0_firstOf cX0_firstOf 2 (some .int) 1 := ⟨gt_in (List.mem_append_right _ (List.mem_of_getElem? (i := 378) (by decide +kernel))) rfl, gt_in (List.mem_append_right _ (List.mem_of_getElem? (i := 6) (by decide +kernel))) rfl, by decide +kernel⟩
theorem win_X0_firstOf : Cond.instanceMethod yX0_firstOf ∈ lw_gt := gt_in (List.mem_append_right _ (List.mem_of_getElem? (i := 376) (by decide +kernel))) rfl
theorem wsel_X0_firstOf : Cond.selects yX0_firstOf.cls yX0_firstOf yX0_firstOf ∈ lw_gt := gt_in (List.mem_append_right _ (List.mem_of_getElem? (i := 377) (by decide +kernel))) rfl
theorem wf_X8_90 : Cond.fieldLink RX8 90 "CutConformer$Subtitle" "first" "I" ∈ lw_gt := gt_in (List.mem_append_right _ (List.mem_of_getElem? (i := 115) (by decide +kernel))) rfl
theorem wm_X8_95 : Cond.methodLink RX8 95 Lib.Math.max.name ∈ lw_gt := gt_in (List.mem_append_right _ (List.mem_of_getElem? (i := 383) (by decide +kernel))) rfl
theorem wf_X8_101 : Cond.fieldLink RX8 101 "CutConformer$Subtitle" "end" "I" ∈ lw_gt := gt_in (List.mem_append_right _ (List.mem_of_getElem? (i := 120) (by decide +kernel))) rfl
theorem wm_X8_104 : Cond.methodLink RX8 104 yX0_lengthOf ∈ lw_gt := gt_in (List.mem_append_right _ (List.mem_of_getElem? (i := 384) (by decide +kernel))) rfl
theorem ck_X0_lengthOf : CkE yX0_lengthOf cX0_lengthOf 2 (some .int) 1 := ⟨gt_in (List.mem_append_right _ (List.mem_of_getElem? (i := 387) (by decide +kernel))) rfl, gt_in (List.mem_append_right _ (List.mem_of_getElem? (i := 6) (by decide +kernel))) rfl, by decide +kernel⟩
theorem win_X0_lengthOf : Cond.instanceMethod yX0_lengthOf ∈ lw_gt := gt_in (List.mem_append_right _ (List.mem_of_getElem? (i := 385) (by decide +kernel))) rfl
theorem wsel_X0_lengthOf : Cond.selects yX0_lengthOf.cls yX0_lengthOf yX0_lengthOf ∈ lw_gt := gt_in (List.mem_append_right _ (List.mem_of_getElem? (i := 386) (by decide +kernel))) rfl
theorem wm_X8_107 : Cond.methodLink RX8 107 Lib.Math.min.name ∈ lw_gt := gt_in (List.mem_append_right _ (List.mem_of_getElem? (i := 388) (by decide +kernel))) rfl
theorem wm_X8_110 : Cond.methodLink RX8 110 yX8_put ∈ lw_gt := gt_in (List.mem_append_right _ (List.mem_of_getElem? (i := 389) (by decide +kernel))) rfl
theorem ck_X8_put : CkE yX8_put cX8_put 3 none 2 := ⟨gt_in (List.mem_append_right _ (List.mem_of_getElem? (i := 392) (by decide +kernel))) rfl, gt_in (List.mem_append_right _ (List.mem_of_getElem? (i := 11) (by decide +kernel))) rfl, by decide +kernel⟩
theorem win_X8_put : Cond.instanceMethod yX8_put ∈ lw_gt := gt_in (List.mem_append_right _ (List.mem_of_getElem? (i := 391) (by decide +kernel))) rfl
theorem wsel_X8_put : Cond.selects yX8_put.cls yX8_put yX8_put ∈ lw_gt := gt_in (List.mem_append_left _ (List.mem_of_getElem? (i := 3) (by decide +kernel))) rfl
theorem wf_X8_23 : Cond.fieldLink RX8 23 "CutConformer$Trial" "result" "LCutConformer$State;" ∈ lw_gt := gt_in (List.mem_append_right _ (List.mem_of_getElem? (i := 181) (by decide +kernel))) rfl
theorem wf_X8_58 : Cond.fieldLink RX8 58 "CutConformer$State" "track" "LCutConformer$Track;" ∈ lw_gt := gt_in (List.mem_append_right _ (List.mem_of_getElem? (i := 162) (by decide +kernel))) rfl
theorem wm_X8_62 : Cond.methodLink RX8 62 yX7_empty ∈ lw_gt := gt_in (List.mem_append_right _ (List.mem_of_getElem? (i := 358) (by decide +kernel))) rfl
theorem ck_X7_empty : CkE yX7_empty cX7_empty 1 none 0 := ⟨gt_in (List.mem_append_right _ (List.mem_of_getElem? (i := 361) (by decide +kernel))) rfl, gt_in (List.mem_append_right _ (List.mem_of_getElem? (i := 9) (by decide +kernel))) rfl, by decide +kernel⟩
theorem win_X7_empty : Cond.instanceMethod yX7_empty ∈ lw_gt := gt_in (List.mem_append_right _ (List.mem_of_getElem? (i := 359) (by decide +kernel))) rfl
theorem wsel_X7_empty : Cond.selects yX7_empty.cls yX7_empty yX7_empty ∈ lw_gt := gt_in (List.mem_append_right _ (List.mem_of_getElem? (i := 360) (by decide +kernel))) rfl
theorem wm_X8_67 : Cond.methodLink RX8 67 yX7_size ∈ lw_gt := gt_in (List.mem_append_right _ (List.mem_of_getElem? (i := 362) (by decide +kernel))) rfl
theorem wm_X8_71 : Cond.methodLink RX8 71 yX7_at ∈ lw_gt := gt_in (List.mem_append_right _ (List.mem_of_getElem? (i := 366) (by decide +kernel))) rfl
theorem wf_X8_75 : Cond.fieldLink RX8 75 "CutConformer$State" "cut" "LCutConformer$Cut;" ∈ lw_gt := gt_in (List.mem_append_right _ (List.mem_of_getElem? (i := 154) (by decide +kernel))) rfl
theorem wm_X8_51 : Cond.methodLink RX8 51 yX8_findStretches ∈ lw_gt := gt_in (List.mem_append_right _ (List.mem_of_getElem? (i := 367) (by decide +kernel))) rfl
theorem ck_X8_findStretches : CkE yX8_findStretches cX8_findStretches 8 none 2 := ⟨gt_in (List.mem_append_right _ (List.mem_of_getElem? (i := 370) (by decide +kernel))) rfl, gt_in (List.mem_append_right _ (List.mem_of_getElem? (i := 11) (by decide +kernel))) rfl, by decide +kernel⟩
theorem win_X8_findStretches : Cond.instanceMethod yX8_findStretches ∈ lw_gt := gt_in (List.mem_append_right _ (List.mem_of_getElem? (i := 369) (by decide +kernel))) rfl
theorem wsel_X8_findStretches : Cond.selects yX8_findStretches.cls yX8_findStretches yX8_findStretches ∈ lw_gt := gt_in (List.mem_append_left _ (List.mem_of_getElem? (i := 2) (by decide +kernel))) rfl
theorem wm_X8_79 : Cond.methodLink RX8 79 yX7_insertLike ∈ lw_gt := gt_in (List.mem_append_right _ (List.mem_of_getElem? (i := 393) (by decide +kernel))) rfl
theorem ck_X7_insertLike : CkE yX7_insertLike cX7_insertLike 5 none 3 := ⟨gt_in (List.mem_append_right _ (List.mem_of_getElem? (i := 396) (by decide +kernel))) rfl, gt_in (List.mem_append_right _ (List.mem_of_getElem? (i := 9) (by decide +kernel))) rfl, by decide +kernel⟩
theorem win_X7_insertLike : Cond.instanceMethod yX7_insertLike ∈ lw_gt := gt_in (List.mem_append_right _ (List.mem_of_getElem? (i := 394) (by decide +kernel))) rfl
theorem wsel_X7_insertLike : Cond.selects yX7_insertLike.cls yX7_insertLike yX7_insertLike ∈ lw_gt := gt_in (List.mem_append_right _ (List.mem_of_getElem? (i := 395) (by decide +kernel))) rfl
theorem wf_X8_31 : Cond.fieldLink RX8 31 "CutConformer$Trial" "lost" "I" ∈ lw_gt := gt_in (List.mem_append_right _ (List.mem_of_getElem? (i := 183) (by decide +kernel))) rfl
theorem wm_X8_114 : Cond.methodLink RX8 114 yX6_overlaps ∈ lw_gt := gt_in (List.mem_append_right _ (List.mem_of_getElem? (i := 409) (by decide +kernel))) rfl
theorem ck_X6_overlaps : CkE yX6_overlaps cX6_overlaps 3 (some .boolean) 1 := ⟨gt_in (List.mem_append_right _ (List.mem_of_getElem? (i := 412) (by decide +kernel))) rfl, gt_in (List.mem_append_right _ (List.mem_of_getElem? (i := 10) (by decide +kernel))) rfl, by decide +kernel⟩
theorem win_X6_overlaps : Cond.instanceMethod yX6_overlaps ∈ lw_gt := gt_in (List.mem_append_right _ (List.mem_of_getElem? (i := 410) (by decide +kernel))) rfl
theorem wsel_X6_overlaps : Cond.selects yX6_overlaps.cls yX6_overlaps yX6_overlaps ∈ lw_gt := gt_in (List.mem_append_right _ (List.mem_of_getElem? (i := 411) (by decide +kernel))) rfl
theorem wm_X8_118 : Cond.methodLink RX8 118 yX6_takeIn ∈ lw_gt := gt_in (List.mem_append_right _ (List.mem_of_getElem? (i := 416) (by decide +kernel))) rfl
theorem ck_X6_takeIn : CkE yX6_takeIn cX6_takeIn 2 none 1 := ⟨gt_in (List.mem_append_right _ (List.mem_of_getElem? (i := 419) (by decide +kernel))) rfl, gt_in (List.mem_append_right _ (List.mem_of_getElem? (i := 10) (by decide +kernel))) rfl, by decide +kernel⟩
theorem win_X6_takeIn : Cond.instanceMethod yX6_takeIn ∈ lw_gt := gt_in (List.mem_append_right _ (List.mem_of_getElem? (i := 417) (by decide +kernel))) rfl
theorem wsel_X6_takeIn : Cond.selects yX6_takeIn.cls yX6_takeIn yX6_takeIn ∈ lw_gt := gt_in (List.mem_append_right _ (List.mem_of_getElem? (i := 418) (by decide +kernel))) rfl
theorem wm_X8_122 : Cond.methodLink RX8 122 yX7_remove ∈ lw_gt := gt_in (List.mem_append_right _ (List.mem_of_getElem? (i := 420) (by decide +kernel))) rfl
theorem ck_X7_remove : CkE yX7_remove cX7_remove 4 none 1 := ⟨gt_in (List.mem_append_right _ (List.mem_of_getElem? (i := 423) (by decide +kernel))) rfl, gt_in (List.mem_append_right _ (List.mem_of_getElem? (i := 9) (by decide +kernel))) rfl, by decide +kernel⟩
theorem win_X7_remove : Cond.instanceMethod yX7_remove ∈ lw_gt := gt_in (List.mem_append_right _ (List.mem_of_getElem? (i := 421) (by decide +kernel))) rfl
theorem wsel_X7_remove : Cond.selects yX7_remove.cls yX7_remove yX7_remove ∈ lw_gt := gt_in (List.mem_append_right _ (List.mem_of_getElem? (i := 422) (by decide +kernel))) rfl
theorem wm_X8_126 : Cond.methodLink RX8 126 yX0_frames ∈ lw_gt := gt_in (List.mem_append_right _ (List.mem_of_getElem? (i := 428) (by decide +kernel))) rfl
theorem wm_X8_129 : Cond.methodLink RX8 129 yX5_latestEnd ∈ lw_gt := gt_in (List.mem_append_right _ (List.mem_of_getElem? (i := 429) (by decide +kernel))) rfl
theorem wm_X8_132 : Cond.methodLink RX8 132 yX5_readingLength ∈ lw_gt := gt_in (List.mem_append_right _ (List.mem_of_getElem? (i := 430) (by decide +kernel))) rfl
theorem wf_X8_136 : Cond.fieldLink RX8 136 "CutConformer$State" "settings" "LCutConformer$Settings;" ∈ lw_gt := gt_in (List.mem_append_right _ (List.mem_of_getElem? (i := 159) (by decide +kernel))) rfl
theorem wm_X8_140 : Cond.methodLink RX8 140 yX3_at ∈ lw_gt := gt_in (List.mem_append_right _ (List.mem_of_getElem? (i := 435) (by decide +kernel))) rfl
theorem wm_X8_153 : Cond.methodLink RX8 153 yX7_settleAll ∈ lw_gt := gt_in (List.mem_append_right _ (List.mem_of_getElem? (i := 437) (by decide +kernel))) rfl
theorem ck_X7_settleAll : CkE yX7_settleAll cX7_settleAll 2 none 0 := ⟨gt_in (List.mem_append_right _ (List.mem_of_getElem? (i := 440) (by decide +kernel))) rfl, gt_in (List.mem_append_right _ (List.mem_of_getElem? (i := 9) (by decide +kernel))) rfl, by decide +kernel⟩
theorem win_X7_settleAll : Cond.instanceMethod yX7_settleAll ∈ lw_gt := gt_in (List.mem_append_right _ (List.mem_of_getElem? (i := 438) (by decide +kernel))) rfl
theorem wsel_X7_settleAll : Cond.selects yX7_settleAll.cls yX7_settleAll yX7_settleAll ∈ lw_gt := gt_in (List.mem_append_right _ (List.mem_of_getElem? (i := 439) (by decide +kernel))) rfl
theorem wf_X8_144 : Cond.fieldLink RX8 144 "CutConformer$State" "shots" "LCutConformer$Shots;" ∈ lw_gt := gt_in (List.mem_append_right _ (List.mem_of_getElem? (i := 157) (by decide +kernel))) rfl
theorem wm_X8_148 : Cond.methodLink RX8 148 yX4_nearest ∈ lw_gt := gt_in (List.mem_append_right _ (List.mem_of_getElem? (i := 436) (by decide +kernel))) rfl
theorem wm_X8_27 : Cond.methodLink RX8 27 yX5_become ∈ lw_gt := gt_in (List.mem_append_right _ (List.mem_of_getElem? (i := 328) (by decide +kernel))) rfl
theorem wm_X8_48 : Cond.methodLink RX8 48 yX8_keepGaps ∈ lw_gt := gt_in (List.mem_append_right _ (List.mem_of_getElem? (i := 441) (by decide +kernel))) rfl
theorem ck_X8_keepGaps : CkE yX8_keepGaps cX8_keepGaps 4 none 0 := ⟨gt_in (List.mem_append_right _ (List.mem_of_getElem? (i := 444) (by decide +kernel))) rfl, gt_in (List.mem_append_right _ (List.mem_of_getElem? (i := 11) (by decide +kernel))) rfl, by decide +kernel⟩
theorem win_X8_keepGaps : Cond.instanceMethod yX8_keepGaps ∈ lw_gt := gt_in (List.mem_append_right _ (List.mem_of_getElem? (i := 443) (by decide +kernel))) rfl
theorem wsel_X8_keepGaps : Cond.selects yX8_keepGaps.cls yX8_keepGaps yX8_keepGaps ∈ lw_gt := gt_in (List.mem_append_left _ (List.mem_of_getElem? (i := 8) (by decide +kernel))) rfl
theorem wm_X8_45 : Cond.methodLink RX8 45 yX8_snap ∈ lw_gt := gt_in (List.mem_append_right _ (List.mem_of_getElem? (i := 431) (by decide +kernel))) rfl
theorem ck_X8_snap : CkE yX8_snap cX8_snap 5 none 0 := ⟨gt_in (List.mem_append_right _ (List.mem_of_getElem? (i := 434) (by decide +kernel))) rfl, gt_in (List.mem_append_right _ (List.mem_of_getElem? (i := 11) (by decide +kernel))) rfl, by decide +kernel⟩
theorem win_X8_snap : Cond.instanceMethod yX8_snap ∈ lw_gt := gt_in (List.mem_append_right _ (List.mem_of_getElem? (i := 433) (by decide +kernel))) rfl
theorem wsel_X8_snap : Cond.selects yX8_snap.cls yX8_snap yX8_snap ∈ lw_gt := gt_in (List.mem_append_left _ (List.mem_of_getElem? (i := 7) (by decide +kernel))) rfl
theorem wm_X8_42 : Cond.methodLink RX8 42 yX8_stretch ∈ lw_gt := gt_in (List.mem_append_right _ (List.mem_of_getElem? (i := 424) (by decide +kernel))) rfl
theorem ck_X8_stretch : CkE yX8_stretch cX8_stretch 6 none 0 := ⟨gt_in (List.mem_append_right _ (List.mem_of_getElem? (i := 427) (by decide +kernel))) rfl, gt_in (List.mem_append_right _ (List.mem_of_getElem? (i := 11) (by decide +kernel))) rfl, by decide +kernel⟩
theorem win_X8_stretch : Cond.instanceMethod yX8_stretch ∈ lw_gt := gt_in (List.mem_append_right _ (List.mem_of_getElem? (i := 426) (by decide +kernel))) rfl
theorem wsel_X8_stretch : Cond.selects yX8_stretch.cls yX8_stretch yX8_stretch ∈ lw_gt := gt_in (List.mem_append_left _ (List.mem_of_getElem? (i := 6) (by decide +kernel))) rfl
theorem wm_X8_39 : Cond.methodLink RX8 39 yX8_merge ∈ lw_gt := gt_in (List.mem_append_right _ (List.mem_of_getElem? (i := 405) (by decide +kernel))) rfl
theorem ck_X8_merge : CkE yX8_merge cX8_merge 3 none 0 := ⟨gt_in (List.mem_append_right _ (List.mem_of_getElem? (i := 408) (by decide +kernel))) rfl, gt_in (List.mem_append_right _ (List.mem_of_getElem? (i := 11) (by decide +kernel))) rfl, by decide +kernel⟩
theorem win_X8_merge : Cond.instanceMethod yX8_merge ∈ lw_gt := gt_in (List.mem_append_right _ (List.mem_of_getElem? (i := 407) (by decide +kernel))) rfl
theorem wsel_X8_merge : Cond.selects yX8_merge.cls yX8_merge yX8_merge ∈ lw_gt := gt_in (List.mem_append_left _ (List.mem_of_getElem? (i := 5) (by decide +kernel))) rfl
theorem wm_X8_35 : Cond.methodLink RX8 35 yX8_map ∈ lw_gt := gt_in (List.mem_append_right _ (List.mem_of_getElem? (i := 354) (by decide +kernel))) rfl
theorem ck_X8_map : CkE yX8_map cX8_map 6 (some .boolean) 1 := ⟨gt_in (List.mem_append_right _ (List.mem_of_getElem? (i := 357) (by decide +kernel))) rfl, gt_in (List.mem_append_right _ (List.mem_of_getElem? (i := 11) (by decide +kernel))) rfl, by decide +kernel⟩
theorem win_X8_map : Cond.instanceMethod yX8_map ∈ lw_gt := gt_in (List.mem_append_right _ (List.mem_of_getElem? (i := 356) (by decide +kernel))) rfl
theorem wsel_X8_map : Cond.selects yX8_map.cls yX8_map yX8_map ∈ lw_gt := gt_in (List.mem_append_left _ (List.mem_of_getElem? (i := 1) (by decide +kernel))) rfl
theorem wm_X9_41 : Cond.methodLink RX9 41 yX9_isWithin ∈ lw_gt := gt_in (List.mem_append_right _ (List.mem_of_getElem? (i := 321) (by decide +kernel))) rfl
theorem ck_X9_isWithin : CkE yX9_isWithin cX9_isWithin 3 (some .boolean) 3 := ⟨gt_in (List.mem_append_right _ (List.mem_of_getElem? (i := 323) (by decide +kernel))) rfl, gt_in (List.mem_append_right _ (List.mem_of_getElem? (i := 1) (by decide +kernel))) rfl, by decide +kernel⟩
theorem wst_X9_isWithin : Cond.static yX9_isWithin ∈ lw_gt := gt_in (List.mem_append_right _ (List.mem_of_getElem? (i := 322) (by decide +kernel))) rfl
theorem wf_X9_23 : Cond.fieldLink RX9 23 "CutConformer" "now" "LCutConformer$State;" ∈ lw_gt := gt_in (List.mem_append_right _ (List.mem_of_getElem? (i := 217) (by decide +kernel))) rfl
theorem wf_X9_45 : Cond.fieldLink RX9 45 "CutConformer$State" "cut" "LCutConformer$Cut;" ∈ lw_gt := gt_in (List.mem_append_right _ (List.mem_of_getElem? (i := 153) (by decide +kernel))) rfl
theorem wm_X9_49 : Cond.methodLink RX9 49 yX0_size ∈ lw_gt := gt_in (List.mem_append_right _ (List.mem_of_getElem? (i := 475) (by decide +kernel))) rfl
theorem wm_X9_55 : Cond.methodLink RX9 55 yX0_frames ∈ lw_gt := gt_in (List.mem_append_right _ (List.mem_of_getElem? (i := 476) (by decide +kernel))) rfl
theorem wf_X9_37 : Cond.fieldLink RX9 37 "CutConformer" "history" "LCutConformer$History;" ∈ lw_gt := gt_in (List.mem_append_right _ (List.mem_of_getElem? (i := 219) (by decide +kernel))) rfl
theorem wm_X9_58 : Cond.methodLink RX9 58 yX1_record ∈ lw_gt := gt_in (List.mem_append_right _ (List.mem_of_getElem? (i := 510) (by decide +kernel))) rfl
theorem ck_X1_record : CkE yX1_record cX1_record 2 none 1 := ⟨gt_in (List.mem_append_right _ (List.mem_of_getElem? (i := 513) (by decide +kernel))) rfl, gt_in (List.mem_append_right _ (List.mem_of_getElem? (i := 12) (by decide +kernel))) rfl, by decide +kernel⟩
theorem win_X1_record : Cond.instanceMethod yX1_record ∈ lw_gt := gt_in (List.mem_append_right _ (List.mem_of_getElem? (i := 511) (by decide +kernel))) rfl
theorem wsel_X1_record : Cond.selects yX1_record.cls yX1_record yX1_record ∈ lw_gt := gt_in (List.mem_append_right _ (List.mem_of_getElem? (i := 512) (by decide +kernel))) rfl
theorem wm_X9_62 : Cond.methodLink RX9 62 yX0_append ∈ lw_gt := gt_in (List.mem_append_right _ (List.mem_of_getElem? (i := 518) (by decide +kernel))) rfl
theorem ck_X0_append : CkE yX0_append cX0_append 3 none 2 := ⟨gt_in (List.mem_append_right _ (List.mem_of_getElem? (i := 521) (by decide +kernel))) rfl, gt_in (List.mem_append_right _ (List.mem_of_getElem? (i := 6) (by decide +kernel))) rfl, by decide +kernel⟩
theorem win_X0_append : Cond.instanceMethod yX0_append ∈ lw_gt := gt_in (List.mem_append_right _ (List.mem_of_getElem? (i := 519) (by decide +kernel))) rfl
theorem wsel_X0_append : Cond.selects yX0_append.cls yX0_append yX0_append ∈ lw_gt := gt_in (List.mem_append_right _ (List.mem_of_getElem? (i := 520) (by decide +kernel))) rfl
theorem wm_X9_66 : Cond.methodLink RX9 66 yX0_has ∈ lw_gt := gt_in (List.mem_append_right _ (List.mem_of_getElem? (i := 589) (by decide +kernel))) rfl
theorem wm_X9_74 : Cond.methodLink RX9 74 yX0_firstOf ∈ lw_gt := gt_in (List.mem_append_right _ (List.mem_of_getElem? (i := 590) (by decide +kernel))) rfl
theorem wm_X9_78 : Cond.methodLink RX9 78 yX0_lengthOf ∈ lw_gt := gt_in (List.mem_append_right _ (List.mem_of_getElem? (i := 591) (by decide +kernel))) rfl
theorem wm_X9_81 : Cond.methodLink RX9 81 yX0_startOf ∈ lw_gt := gt_in (List.mem_append_right _ (List.mem_of_getElem? (i := 592) (by decide +kernel))) rfl
theorem wf_X9_84 : Cond.fieldLink RX9 84 "CutConformer$State" "shots" "LCutConformer$Shots;" ∈ lw_gt := gt_in (List.mem_append_right _ (List.mem_of_getElem? (i := 156) (by decide +kernel))) rfl
theorem wm_X9_95 : Cond.methodLink RX9 95 yX4_remove ∈ lw_gt := gt_in (List.mem_append_right _ (List.mem_of_getElem? (i := 535) (by decide +kernel))) rfl
theorem ck_X4_remove : CkE yX4_remove cX4_remove 4 none 1 := ⟨gt_in (List.mem_append_right _ (List.mem_of_getElem? (i := 538) (by decide +kernel))) rfl, gt_in (List.mem_append_right _ (List.mem_of_getElem? (i := 7) (by decide +kernel))) rfl, by decide +kernel⟩
theorem win_X4_remove : Cond.instanceMethod yX4_remove ∈ lw_gt := gt_in (List.mem_append_right _ (List.mem_of_getElem? (i := 536) (by decide +kernel))) rfl
theorem wsel_X4_remove : Cond.selects yX4_remove.cls yX4_remove yX4_remove ∈ lw_gt := gt_in (List.mem_append_right _ (List.mem_of_getElem? (i := 537) (by decide +kernel))) rfl
theorem wm_X9_91 : Cond.methodLink RX9 91 yX4_size ∈ lw_gt := gt_in (List.mem_append_right _ (List.mem_of_getElem? (i := 477) (by decide +kernel))) rfl
theorem ck_X4_size : CkE yX4_size cX4_size 1 (some .int) 0 := ⟨gt_in (List.mem_append_right _ (List.mem_of_getElem? (i := 480) (by decide +kernel))) rfl, gt_in (List.mem_append_right _ (List.mem_of_getElem? (i := 7) (by decide +kernel))) rfl, by decide +kernel⟩
theorem win_X4_size : Cond.instanceMethod yX4_size ∈ lw_gt := gt_in (List.mem_append_right _ (List.mem_of_getElem? (i := 478) (by decide +kernel))) rfl
theorem wsel_X4_size : Cond.selects yX4_size.cls yX4_size yX4_size ∈ lw_gt := gt_in (List.mem_append_right _ (List.mem_of_getElem? (i := 479) (by decide +kernel))) rfl
theorem wm_X9_92 : Cond.methodLink RX9 92 yX4_insert ∈ lw_gt := gt_in (List.mem_append_right _ (List.mem_of_getElem? (i := 530) (by decide +kernel))) rfl
theorem ck_X4_insert : CkE yX4_insert cX4_insert 3 none 1 := ⟨gt_in (List.mem_append_right _ (List.mem_of_getElem? (i := 533) (by decide +kernel))) rfl, gt_in (List.mem_append_right _ (List.mem_of_getElem? (i := 7) (by decide +kernel))) rfl, by decide +kernel⟩
theorem win_X4_insert : Cond.instanceMethod yX4_insert ∈ lw_gt := gt_in (List.mem_append_right _ (List.mem_of_getElem? (i := 531) (by decide +kernel))) rfl
theorem wsel_X4_insert : Cond.selects yX4_insert.cls yX4_insert yX4_insert ∈ lw_gt := gt_in (List.mem_append_right _ (List.mem_of_getElem? (i := 532) (by decide +kernel))) rfl
theorem wm_X9_88 : Cond.methodLink RX9 88 yX4_has ∈ lw_gt := gt_in (List.mem_append_right _ (List.mem_of_getElem? (i := 526) (by decide +kernel))) rfl
theorem wm_X9_96 : Cond.methodLink RX9 96 yX4_at ∈ lw_gt := gt_in (List.mem_append_right _ (List.mem_of_getElem? (i := 628) (by decide +kernel))) rfl
theorem ck_X4_at : CkE yX4_at cX4_at 2 (some .int) 1 := ⟨gt_in (List.mem_append_right _ (List.mem_of_getElem? (i := 631) (by decide +kernel))) rfl, gt_in (List.mem_append_right _ (List.mem_of_getElem? (i := 7) (by decide +kernel))) rfl, by decide +kernel⟩
theorem win_X4_at : Cond.instanceMethod yX4_at ∈ lw_gt := gt_in (List.mem_append_right _ (List.mem_of_getElem? (i := 629) (by decide +kernel))) rfl
theorem wsel_X4_at : Cond.selects yX4_at.cls yX4_at yX4_at ∈ lw_gt := gt_in (List.mem_append_right _ (List.mem_of_getElem? (i := 630) (by decide +kernel))) rfl
theorem wm_X9_99 : Cond.methodLink RX9 99 yX0_newFrame ∈ lw_gt := gt_in (List.mem_append_right _ (List.mem_of_getElem? (i := 605) (by decide +kernel))) rfl
theorem ck_X0_newFrame : CkE yX0_newFrame cX0_newFrame 7 (some .int) 2 := ⟨gt_in (List.mem_append_right _ (List.mem_of_getElem? (i := 608) (by decide +kernel))) rfl, gt_in (List.mem_append_right _ (List.mem_of_getElem? (i := 6) (by decide +kernel))) rfl, by decide +kernel⟩
theorem win_X0_newFrame : Cond.instanceMethod yX0_newFrame ∈ lw_gt := gt_in (List.mem_append_right _ (List.mem_of_getElem? (i := 606) (by decide +kernel))) rfl
theorem wsel_X0_newFrame : Cond.selects yX0_newFrame.cls yX0_newFrame yX0_newFrame ∈ lw_gt := gt_in (List.mem_append_right _ (List.mem_of_getElem? (i := 607) (by decide +kernel))) rfl
theorem wm_X9_103 : Cond.methodLink RX9 103 yX0_oldFrame ∈ lw_gt := gt_in (List.mem_append_right _ (List.mem_of_getElem? (i := 597) (by decide +kernel))) rfl
theorem ck_X0_oldFrame : CkE yX0_oldFrame cX0_oldFrame 4 (some .int) 1 := ⟨gt_in (List.mem_append_right _ (List.mem_of_getElem? (i := 600) (by decide +kernel))) rfl, gt_in (List.mem_append_right _ (List.mem_of_getElem? (i := 6) (by decide +kernel))) rfl, by decide +kernel⟩
theorem win_X0_oldFrame : Cond.instanceMethod yX0_oldFrame ∈ lw_gt := gt_in (List.mem_append_right _ (List.mem_of_getElem? (i := 598) (by decide +kernel))) rfl
theorem wsel_X0_oldFrame : Cond.selects yX0_oldFrame.cls yX0_oldFrame yX0_oldFrame ∈ lw_gt := gt_in (List.mem_append_right _ (List.mem_of_getElem? (i := 599) (by decide +kernel))) rfl
theorem wf_X9_106 : Cond.fieldLink RX9 106 "CutConformer" "typedBytes" "I" ∈ lw_gt := gt_in (List.mem_append_right _ (List.mem_of_getElem? (i := 216) (by decide +kernel))) rfl
theorem wf_X9_9 : Cond.fieldLink RX9 9 "CutConformer" "typed" "[B" ∈ lw_gt := gt_in (List.mem_append_right _ (List.mem_of_getElem? (i := 215) (by decide +kernel))) rfl
theorem wm_X9_110 : Cond.methodLink RX9 110 yX9_isTime ∈ lw_gt := gt_in (List.mem_append_right _ (List.mem_of_getElem? (i := 554) (by decide +kernel))) rfl
theorem ck_X9_isTime : CkE yX9_isTime cX9_isTime 2 (some .boolean) 2 := ⟨gt_in (List.mem_append_right _ (List.mem_of_getElem? (i := 556) (by decide +kernel))) rfl, gt_in (List.mem_append_right _ (List.mem_of_getElem? (i := 1) (by decide +kernel))) rfl, by decide +kernel⟩
theorem wst_X9_isTime : Cond.static yX9_isTime ∈ lw_gt := gt_in (List.mem_append_right _ (List.mem_of_getElem? (i := 555) (by decide +kernel))) rfl
theorem wf_X9_114 : Cond.fieldLink RX9 114 "CutConformer$State" "track" "LCutConformer$Track;" ∈ lw_gt := gt_in (List.mem_append_right _ (List.mem_of_getElem? (i := 163) (by decide +kernel))) rfl
theorem wm_X9_118 : Cond.methodLink RX9 118 yX7_isFull ∈ lw_gt := gt_in (List.mem_append_right _ (List.mem_of_getElem? (i := 557) (by decide +kernel))) rfl
theorem wm_X9_124 : Cond.methodLink RX9 124 yX9_firstWrongBlank ∈ lw_gt := gt_in (List.mem_append_right _ (List.mem_of_getElem? (i := 558) (by decide +kernel))) rfl
theorem ck_X9_firstWrongBlank : CkE yX9_firstWrongBlank cX9_firstWrongBlank 4 (some .int) 0 := ⟨gt_in (List.mem_append_right _ (List.mem_of_getElem? (i := 561) (by decide +kernel))) rfl, gt_in (List.mem_append_right _ (List.mem_of_getElem? (i := 1) (by decide +kernel))) rfl, by decide +kernel⟩
theorem win_X9_firstWrongBlank : Cond.instanceMethod yX9_firstWrongBlank ∈ lw_gt := gt_in (List.mem_append_right _ (List.mem_of_getElem? (i := 560) (by decide +kernel))) rfl
theorem wsel_X9_firstWrongBlank : Cond.selects yX9_firstWrongBlank.cls yX9_firstWrongBlank yX9_firstWrongBlank ∈ lw_gt := gt_in (List.mem_append_left _ (List.mem_of_getElem? (i := 10) (by decide +kernel))) rfl
theorem wm_X9_130 : Cond.methodLink RX9 130 yX7_has ∈ lw_gt := gt_in (List.mem_append_right _ (List.mem_of_getElem? (i := 235) (by decide +kernel))) rfl
theorem wm_X9_137 : Cond.methodLink RX9 137 yX7_at ∈ lw_gt := gt_in (List.mem_append_right _ (List.mem_of_getElem? (i := 239) (by decide +kernel))) rfl
theorem wf_X9_140 : Cond.fieldLink RX9 140 "CutConformer$Subtitle" "first" "I" ∈ lw_gt := gt_in (List.mem_append_right _ (List.mem_of_getElem? (i := 117) (by decide +kernel))) rfl
theorem wf_X9_145 : Cond.fieldLink RX9 145 "CutConformer$Subtitle" "end" "I" ∈ lw_gt := gt_in (List.mem_append_right _ (List.mem_of_getElem? (i := 122) (by decide +kernel))) rfl
theorem wf_X9_148 : Cond.fieldLink RX9 148 "CutConformer$Subtitle" "parts" "I" ∈ lw_gt := gt_in (List.mem_append_right _ (List.mem_of_getElem? (i := 125) (by decide +kernel))) rfl
theorem wm_X9_151 : Cond.methodLink RX9 151 yX6_characters ∈ lw_gt := gt_in (List.mem_append_right _ (List.mem_of_getElem? (i := 244) (by decide +kernel))) rfl
theorem wm_X9_154 : Cond.methodLink RX9 154 yX5_readingLength ∈ lw_gt := gt_in (List.mem_append_right _ (List.mem_of_getElem? (i := 252) (by decide +kernel))) rfl
theorem wm_X9_158 : Cond.methodLink RX9 158 yX5_faultsOf ∈ lw_gt := gt_in (List.mem_append_right _ (List.mem_of_getElem? (i := 262) (by decide +kernel))) rfl
theorem wm_X9_161 : Cond.methodLink RX9 161 yX7_next ∈ lw_gt := gt_in (List.mem_append_right _ (List.mem_of_getElem? (i := 316) (by decide +kernel))) rfl
theorem wf_X9_168 : Cond.fieldLink RX9 168 "CutConformer$Subtitle" "two" "LCutConformer$Part;" ∈ lw_gt := gt_in (List.mem_append_right _ (List.mem_of_getElem? (i := 130) (by decide +kernel))) rfl
theorem wf_X9_180 : Cond.fieldLink RX9 180 "CutConformer$State" "settings" "LCutConformer$Settings;" ∈ lw_gt := gt_in (List.mem_append_right _ (List.mem_of_getElem? (i := 160) (by decide +kernel))) rfl
theorem wm_X9_184 : Cond.methodLink RX9 184 yX3_at ∈ lw_gt := gt_in (List.mem_append_right _ (List.mem_of_getElem? (i := 474) (by decide +kernel))) rfl
theorem wm_X9_187 : Cond.methodLink RX9 187 yX2_brokenAt ∈ lw_gt := gt_in (List.mem_append_right _ (List.mem_of_getElem? (i := 644) (by decide +kernel))) rfl
theorem ck_X2_brokenAt : CkE yX2_brokenAt cX2_brokenAt 8 (some .int) 1 := ⟨gt_in (List.mem_append_right _ (List.mem_of_getElem? (i := 647) (by decide +kernel))) rfl, gt_in (List.mem_append_right _ (List.mem_of_getElem? (i := 2) (by decide +kernel))) rfl, by decide +kernel⟩
theorem win_X2_brokenAt : Cond.instanceMethod yX2_brokenAt ∈ lw_gt := gt_in (List.mem_append_right _ (List.mem_of_getElem? (i := 645) (by decide +kernel))) rfl
theorem wsel_X2_brokenAt : Cond.selects yX2_brokenAt.cls yX2_brokenAt yX2_brokenAt ∈ lw_gt := gt_in (List.mem_append_right _ (List.mem_of_getElem? (i := 646) (by decide +kernel))) rfl
theorem wm_X9_190 : Cond.methodLink RX9 190 yX2_rankOf ∈ lw_gt := gt_in (List.mem_append_right _ (List.mem_of_getElem? (i := 708) (by decide +kernel))) rfl
theorem wm_X9_177 : Cond.methodLink RX9 177 yX2_bytes ∈ lw_gt := gt_in (List.mem_append_right _ (List.mem_of_getElem? (i := 643) (by decide +kernel))) rfl
theorem wf_X9_174 : Cond.fieldLink RX9 174 "CutConformer$Part" "speaker" "I" ∈ lw_gt := gt_in (List.mem_append_right _ (List.mem_of_getElem? (i := 43) (by decide +kernel))) rfl
theorem wm_X9_171 : Cond.methodLink RX9 171 yX2_byteAt ∈ lw_gt := gt_in (List.mem_append_right _ (List.mem_of_getElem? (i := 639) (by decide +kernel))) rfl
theorem wf_X9_164 : Cond.fieldLink RX9 164 "CutConformer$Subtitle" "one" "LCutConformer$Part;" ∈ lw_gt := gt_in (List.mem_append_right _ (List.mem_of_getElem? (i := 128) (by decide +kernel))) rfl
theorem wm_X9_193 : Cond.methodLink RX9 193 yX3_takes ∈ lw_gt := gt_in (List.mem_append_right _ (List.mem_of_getElem? (i := 570) (by decide +kernel))) rfl
theorem ck_X3_takes : CkE yX3_takes cX3_takes 3 (some .boolean) 2 := ⟨gt_in (List.mem_append_right _ (List.mem_of_getElem? (i := 573) (by decide +kernel))) rfl, gt_in (List.mem_append_right _ (List.mem_of_getElem? (i := 8) (by decide +kernel))) rfl, by decide +kernel⟩
theorem win_X3_takes : Cond.instanceMethod yX3_takes ∈ lw_gt := gt_in (List.mem_append_right _ (List.mem_of_getElem? (i := 571) (by decide +kernel))) rfl
theorem wsel_X3_takes : Cond.selects yX3_takes.cls yX3_takes yX3_takes ∈ lw_gt := gt_in (List.mem_append_right _ (List.mem_of_getElem? (i := 572) (by decide +kernel))) rfl
theorem wm_X9_196 : Cond.methodLink RX9 196 yX3_put ∈ lw_gt := gt_in (List.mem_append_right _ (List.mem_of_getElem? (i := 578) (by decide +kernel))) rfl
theorem ck_X3_put : CkE yX3_put cX3_put 3 none 2 := ⟨gt_in (List.mem_append_right _ (List.mem_of_getElem? (i := 581) (by decide +kernel))) rfl, gt_in (List.mem_append_right _ (List.mem_of_getElem? (i := 8) (by decide +kernel))) rfl, by decide +kernel⟩
theorem win_X3_put : Cond.instanceMethod yX3_put ∈ lw_gt := gt_in (List.mem_append_right _ (List.mem_of_getElem? (i := 579) (by decide +kernel))) rfl
theorem wsel_X3_put : Cond.selects yX3_put.cls yX3_put yX3_put ∈ lw_gt := gt_in (List.mem_append_right _ (List.mem_of_getElem? (i := 580) (by decide +kernel))) rfl
theorem wf_X9_30 : Cond.fieldLink RX9 30 "CutConformer" "trial" "LCutConformer$Trial;" ∈ lw_gt := gt_in (List.mem_append_right _ (List.mem_of_getElem? (i := 218) (by decide +kernel))) rfl
theorem wm_X9_199 : Cond.methodLink RX9 199 yX8_carryOut ∈ lw_gt := gt_in (List.mem_append_right _ (List.mem_of_getElem? (i := 324) (by decide +kernel))) rfl
theorem ck_X8_carryOut : CkE yX8_carryOut cX8_carryOut 3 (some .boolean) 2 := ⟨gt_in (List.mem_append_right _ (List.mem_of_getElem? (i := 327) (by decide +kernel))) rfl, gt_in (List.mem_append_right _ (List.mem_of_getElem? (i := 11) (by decide +kernel))) rfl, by decide +kernel⟩
theorem win_X8_carryOut : Cond.instanceMethod yX8_carryOut ∈ lw_gt := gt_in (List.mem_append_right _ (List.mem_of_getElem? (i := 325) (by decide +kernel))) rfl
theorem wsel_X8_carryOut : Cond.selects yX8_carryOut.cls yX8_carryOut yX8_carryOut ∈ lw_gt := gt_in (List.mem_append_right _ (List.mem_of_getElem? (i := 326) (by decide +kernel))) rfl
theorem wf_X9_203 : Cond.fieldLink RX9 203 "CutConformer$Trial" "result" "LCutConformer$State;" ∈ lw_gt := gt_in (List.mem_append_right _ (List.mem_of_getElem? (i := 182) (by decide +kernel))) rfl
theorem wm_X9_206 : Cond.methodLink RX9 206 yX5_become ∈ lw_gt := gt_in (List.mem_append_right _ (List.mem_of_getElem? (i := 737) (by decide +kernel))) rfl
theorem wm_X9_132 : Cond.methodLink RX9 132 yX7_size ∈ lw_gt := gt_in (List.mem_append_right _ (List.mem_of_getElem? (i := 445) (by decide +kernel))) rfl
theorem wf_X9_218 : Cond.fieldLink RX9 218 "CutConformer$Trial" "lost" "I" ∈ lw_gt := gt_in (List.mem_append_right _ (List.mem_of_getElem? (i := 184) (by decide +kernel))) rfl
theorem wm_X9_209 : Cond.methodLink RX9 209 yX7_allLengths ∈ lw_gt := gt_in (List.mem_append_right _ (List.mem_of_getElem? (i := 446) (by decide +kernel))) rfl
theorem ck_X7_allLengths : CkE yX7_allLengths cX7_allLengths 3 (some .int) 0 := ⟨gt_in (List.mem_append_right _ (List.mem_of_getElem? (i := 449) (by decide +kernel))) rfl, gt_in (List.mem_append_right _ (List.mem_of_getElem? (i := 9) (by decide +kernel))) rfl, by decide +kernel⟩
theorem win_X7_allLengths : Cond.instanceMethod yX7_allLengths ∈ lw_gt := gt_in (List.mem_append_right _ (List.mem_of_getElem? (i := 447) (by decide +kernel))) rfl
theorem wsel_X7_allLengths : Cond.selects yX7_allLengths.cls yX7_allLengths yX7_allLengths ∈ lw_gt := gt_in (List.mem_append_right _ (List.mem_of_getElem? (i := 448) (by decide +kernel))) rfl
theorem wm_X9_212 : Cond.methodLink RX9 212 yX5_countFaulty ∈ lw_gt := gt_in (List.mem_append_right _ (List.mem_of_getElem? (i := 451) (by decide +kernel))) rfl
theorem ck_X5_countFaulty : CkE yX5_countFaulty cX5_countFaulty 5 (some .int) 1 := ⟨gt_in (List.mem_append_right _ (List.mem_of_getElem? (i := 454) (by decide +kernel))) rfl, gt_in (List.mem_append_right _ (List.mem_of_getElem? (i := 5) (by decide +kernel))) rfl, by decide +kernel⟩
theorem win_X5_countFaulty : Cond.instanceMethod yX5_countFaulty ∈ lw_gt := gt_in (List.mem_append_right _ (List.mem_of_getElem? (i := 452) (by decide +kernel))) rfl
theorem wsel_X5_countFaulty : Cond.selects yX5_countFaulty.cls yX5_countFaulty yX5_countFaulty ∈ lw_gt := gt_in (List.mem_append_right _ (List.mem_of_getElem? (i := 453) (by decide +kernel))) rfl
theorem wm_X9_215 : Cond.methodLink RX9 215 yX7_greatestEnd ∈ lw_gt := gt_in (List.mem_append_right _ (List.mem_of_getElem? (i := 457) (by decide +kernel))) rfl
theorem ck_X7_greatestEnd : CkE yX7_greatestEnd cX7_greatestEnd 3 (some .int) 0 := ⟨gt_in (List.mem_append_right _ (List.mem_of_getElem? (i := 460) (by decide +kernel))) rfl, gt_in (List.mem_append_right _ (List.mem_of_getElem? (i := 9) (by decide +kernel))) rfl, by decide +kernel⟩
theorem win_X7_greatestEnd : Cond.instanceMethod yX7_greatestEnd ∈ lw_gt := gt_in (List.mem_append_right _ (List.mem_of_getElem? (i := 458) (by decide +kernel))) rfl
theorem wsel_X7_greatestEnd : Cond.selects yX7_greatestEnd.cls yX7_greatestEnd yX7_greatestEnd ∈ lw_gt := gt_in (List.mem_append_right _ (List.mem_of_getElem? (i := 459) (by decide +kernel))) rfl
theorem wm_X9_221 : Cond.methodLink RX9 221 yX8_countStretches ∈ lw_gt := gt_in (List.mem_append_right _ (List.mem_of_getElem? (i := 729) (by decide +kernel))) rfl
theorem ck_X8_countStretches : CkE yX8_countStretches cX8_countStretches 3 (some .int) 2 := ⟨gt_in (List.mem_append_right _ (List.mem_of_getElem? (i := 732) (by decide +kernel))) rfl, gt_in (List.mem_append_right _ (List.mem_of_getElem? (i := 11) (by decide +kernel))) rfl, by decide +kernel⟩
theorem win_X8_countStretches : Cond.instanceMethod yX8_countStretches ∈ lw_gt := gt_in (List.mem_append_right _ (List.mem_of_getElem? (i := 730) (by decide +kernel))) rfl
theorem wsel_X8_countStretches : Cond.selects yX8_countStretches.cls yX8_countStretches yX8_countStretches ∈ lw_gt := gt_in (List.mem_append_right _ (List.mem_of_getElem? (i := 731) (by decide +kernel))) rfl
theorem wm_X9_225 : Cond.methodLink RX9 225 yX7_shownAt ∈ lw_gt := gt_in (List.mem_append_right _ (List.mem_of_getElem? (i := 466) (by decide +kernel))) rfl
theorem ck_X7_shownAt : CkE yX7_shownAt cX7_shownAt 4 (some .int) 1 := ⟨gt_in (List.mem_append_right _ (List.mem_of_getElem? (i := 469) (by decide +kernel))) rfl, gt_in (List.mem_append_right _ (List.mem_of_getElem? (i := 9) (by decide +kernel))) rfl, by decide +kernel⟩
theorem win_X7_shownAt : Cond.instanceMethod yX7_shownAt ∈ lw_gt := gt_in (List.mem_append_right _ (List.mem_of_getElem? (i := 467) (by decide +kernel))) rfl
theorem wsel_X7_shownAt : Cond.selects yX7_shownAt.cls yX7_shownAt yX7_shownAt ∈ lw_gt := gt_in (List.mem_append_right _ (List.mem_of_getElem? (i := 468) (by decide +kernel))) rfl
theorem wm_X9_228 : Cond.methodLink RX9 228 yJ6_bitCount_0f7a4 ∈ lw_gt := gt_in (List.mem_append_right _ (List.mem_of_getElem? (i := 713) (by decide +kernel))) rfl
theorem wm_X9_233 : Cond.methodLink RX9 233 yX7_countPairs ∈ lw_gt := gt_in (List.mem_append_right _ (List.mem_of_getElem? (i := 481) (by decide +kernel))) rfl
theorem ck_X7_countPairs : CkE yX7_countPairs cX7_countPairs 3 (some .int) 0 := ⟨gt_in (List.mem_append_right _ (List.mem_of_getElem? (i := 484) (by decide +kernel))) rfl, gt_in (List.mem_append_right _ (List.mem_of_getElem? (i := 9) (by decide +kernel))) rfl, by decide +kernel⟩
theorem win_X7_countPairs : Cond.instanceMethod yX7_countPairs ∈ lw_gt := gt_in (List.mem_append_right _ (List.mem_of_getElem? (i := 482) (by decide +kernel))) rfl
theorem wsel_X7_countPairs : Cond.selects yX7_countPairs.cls yX7_countPairs yX7_countPairs ∈ lw_gt := gt_in (List.mem_append_right _ (List.mem_of_getElem? (i := 483) (by decide +kernel))) rfl
theorem wm_X9_236 : Cond.methodLink RX9 236 yX1_size ∈ lw_gt := gt_in (List.mem_append_right _ (List.mem_of_getElem? (i := 485) (by decide +kernel))) rfl
theorem ck_X1_size : CkE yX1_size cX1_size 1 (some .int) 0 := ⟨gt_in (List.mem_append_right _ (List.mem_of_getElem? (i := 488) (by decide +kernel))) rfl, gt_in (List.mem_append_right _ (List.mem_of_getElem? (i := 12) (by decide +kernel))) rfl, by decide +kernel⟩
theorem win_X1_size : Cond.instanceMethod yX1_size ∈ lw_gt := gt_in (List.mem_append_right _ (List.mem_of_getElem? (i := 486) (by decide +kernel))) rfl
theorem wsel_X1_size : Cond.selects yX1_size.cls yX1_size yX1_size ∈ lw_gt := gt_in (List.mem_append_right _ (List.mem_of_getElem? (i := 487) (by decide +kernel))) rfl
theorem wm_X9_237 : Cond.methodLink RX9 237 yX1_restore ∈ lw_gt := gt_in (List.mem_append_right _ (List.mem_of_getElem? (i := 493) (by decide +kernel))) rfl
theorem ck_X1_restore : CkE yX1_restore cX1_restore 2 none 1 := ⟨gt_in (List.mem_append_right _ (List.mem_of_getElem? (i := 496) (by decide +kernel))) rfl, gt_in (List.mem_append_right _ (List.mem_of_getElem? (i := 12) (by decide +kernel))) rfl, by decide +kernel⟩
theorem win_X1_restore : Cond.instanceMethod yX1_restore ∈ lw_gt := gt_in (List.mem_append_right _ (List.mem_of_getElem? (i := 494) (by decide +kernel))) rfl
theorem wsel_X1_restore : Cond.selects yX1_restore.cls yX1_restore yX1_restore ∈ lw_gt := gt_in (List.mem_append_right _ (List.mem_of_getElem? (i := 495) (by decide +kernel))) rfl
