/-! the law: words of its methods (printed by wip/p26/gen/emit26.py) -/
theorem wci_L_7 : Cond.constant RL 7 (jI 15486167) ∈ lw_gt := gt_in (List.mem_append_right _ (List.mem_of_getElem? (i := 501) (by decide +kernel))) rfl
theorem wci_L_8 : Cond.constant RL 8 (jI 2147483647) ∈ lw_gt := gt_in (List.mem_append_right _ (List.mem_of_getElem? (i := 502) (by decide +kernel))) rfl
theorem wm_L_39 : Cond.methodLink RL 39 yX9_clear ∈ lw_gt := gt_in (List.mem_append_right _ (List.mem_of_getElem? (i := 542) (by decide +kernel))) rfl
theorem ck_X9_clear : CkE yX9_clear cX9_clear 2 (some .int) 0 := ⟨gt_in (List.mem_append_right _ (List.mem_of_getElem? (i := 545) (by decide +kernel))) rfl, gt_in (List.mem_append_right _ (List.mem_of_getElem? (i := 1) (by decide +kernel))) rfl, by decide +kernel⟩
theorem win_X9_clear : Cond.instanceMethod yX9_clear ∈ lw_gt := gt_in (List.mem_append_right _ (List.mem_of_getElem? (i := 543) (by decide +kernel))) rfl
theorem wsel_X9_clear : Cond.selects yX9_clear.cls yX9_clear yX9_clear ∈ lw_gt := gt_in (List.mem_append_right _ (List.mem_of_getElem? (i := 544) (by decide +kernel))) rfl
theorem wm_L_43 : Cond.methodLink RL 43 yX9_type ∈ lw_gt := gt_in (List.mem_append_right _ (List.mem_of_getElem? (i := 546) (by decide +kernel))) rfl
theorem ck_X9_type : CkE yX9_type cX9_type 2 (some .int) 1 := ⟨gt_in (List.mem_append_right _ (List.mem_of_getElem? (i := 549) (by decide +kernel))) rfl, gt_in (List.mem_append_right _ (List.mem_of_getElem? (i := 1) (by decide +kernel))) rfl, by decide +kernel⟩
theorem win_X9_type : Cond.instanceMethod yX9_type ∈ lw_gt := gt_in (List.mem_append_right _ (List.mem_of_getElem? (i := 547) (by decide +kernel))) rfl
theorem wsel_X9_type : Cond.selects yX9_type.cls yX9_type yX9_type ∈ lw_gt := gt_in (List.mem_append_right _ (List.mem_of_getElem? (i := 548) (by decide +kernel))) rfl
theorem wm_L_9 : Cond.methodLink RL 9 yL_cell ∈ lw_gt := gt_in (List.mem_append_right _ (List.mem_of_getElem? (i := 498) (by decide +kernel))) rfl
theorem ck_L_cell : CkE yL_cell cL_cell 2 (some .int) 2 := ⟨gt_in (List.mem_append_right _ (List.mem_of_getElem? (i := 500) (by decide +kernel))) rfl, gt_in (List.mem_append_right _ (List.mem_of_getElem? (i := 0) (by decide +kernel))) rfl, by decide +kernel⟩
theorem wst_L_cell : Cond.static yL_cell ∈ lw_gt := gt_in (List.mem_append_right _ (List.mem_of_getElem? (i := 499) (by decide +kernel))) rfl
theorem wm_L_36 : Cond.methodLink RL 36 yX9_set ∈ lw_gt := gt_in (List.mem_append_right _ (List.mem_of_getElem? (i := 566) (by decide +kernel))) rfl
theorem ck_X9_set : CkE yX9_set cX9_set 4 (some .int) 2 := ⟨gt_in (List.mem_append_right _ (List.mem_of_getElem? (i := 569) (by decide +kernel))) rfl, gt_in (List.mem_append_right _ (List.mem_of_getElem? (i := 1) (by decide +kernel))) rfl, by decide +kernel⟩
theorem win_X9_set : Cond.instanceMethod yX9_set ∈ lw_gt := gt_in (List.mem_append_right _ (List.mem_of_getElem? (i := 567) (by decide +kernel))) rfl
theorem wsel_X9_set : Cond.selects yX9_set.cls yX9_set yX9_set ∈ lw_gt := gt_in (List.mem_append_right _ (List.mem_of_getElem? (i := 568) (by decide +kernel))) rfl
theorem wm_L_25 : Cond.methodLink RL 25 yL_writes ∈ lw_gt := gt_in (List.mem_append_right _ (List.mem_of_getElem? (i := 539) (by decide +kernel))) rfl
theorem ck_L_writes : CkE yL_writes cL_writes 7 (some .boolean) 2 := ⟨gt_in (List.mem_append_right _ (List.mem_of_getElem? (i := 541) (by decide +kernel))) rfl, gt_in (List.mem_append_right _ (List.mem_of_getElem? (i := 0) (by decide +kernel))) rfl, by decide +kernel⟩
theorem wst_L_writes : Cond.static yL_writes ∈ lw_gt := gt_in (List.mem_append_right _ (List.mem_of_getElem? (i := 540) (by decide +kernel))) rfl
theorem wm_L_29 : Cond.methodLink RL 29 yX9_add ∈ lw_gt := gt_in (List.mem_append_right _ (List.mem_of_getElem? (i := 550) (by decide +kernel))) rfl
theorem ck_X9_add : CkE yX9_add cX9_add 5 (some .int) 3 := ⟨gt_in (List.mem_append_right _ (List.mem_of_getElem? (i := 553) (by decide +kernel))) rfl, gt_in (List.mem_append_right _ (List.mem_of_getElem? (i := 1) (by decide +kernel))) rfl, by decide +kernel⟩
theorem win_X9_add : Cond.instanceMethod yX9_add ∈ lw_gt := gt_in (List.mem_append_right _ (List.mem_of_getElem? (i := 551) (by decide +kernel))) rfl
theorem wsel_X9_add : Cond.selects yX9_add.cls yX9_add yX9_add ∈ lw_gt := gt_in (List.mem_append_right _ (List.mem_of_getElem? (i := 552) (by decide +kernel))) rfl
theorem wm_L_33 : Cond.methodLink RL 33 yX9_subtitle ∈ lw_gt := gt_in (List.mem_append_right _ (List.mem_of_getElem? (i := 231) (by decide +kernel))) rfl
theorem ck_X9_subtitle : CkE yX9_subtitle cX9_subtitle 4 (some .int) 2 := ⟨gt_in (List.mem_append_right _ (List.mem_of_getElem? (i := 234) (by decide +kernel))) rfl, gt_in (List.mem_append_right _ (List.mem_of_getElem? (i := 1) (by decide +kernel))) rfl, by decide +kernel⟩
theorem win_X9_subtitle : Cond.instanceMethod yX9_subtitle ∈ lw_gt := gt_in (List.mem_append_right _ (List.mem_of_getElem? (i := 232) (by decide +kernel))) rfl
theorem wsel_X9_subtitle : Cond.selects yX9_subtitle.cls yX9_subtitle yX9_subtitle ∈ lw_gt := gt_in (List.mem_append_right _ (List.mem_of_getElem? (i := 233) (by decide +kernel))) rfl
theorem wm_L_21 : Cond.methodLink RL 21 yX9_shot ∈ lw_gt := gt_in (List.mem_append_right _ (List.mem_of_getElem? (i := 522) (by decide +kernel))) rfl
theorem ck_X9_shot : CkE yX9_shot cX9_shot 3 (some .int) 2 := ⟨gt_in (List.mem_append_right _ (List.mem_of_getElem? (i := 525) (by decide +kernel))) rfl, gt_in (List.mem_append_right _ (List.mem_of_getElem? (i := 1) (by decide +kernel))) rfl, by decide +kernel⟩
theorem win_X9_shot : Cond.instanceMethod yX9_shot ∈ lw_gt := gt_in (List.mem_append_right _ (List.mem_of_getElem? (i := 523) (by decide +kernel))) rfl
theorem wsel_X9_shot : Cond.selects yX9_shot.cls yX9_shot yX9_shot ∈ lw_gt := gt_in (List.mem_append_right _ (List.mem_of_getElem? (i := 524) (by decide +kernel))) rfl
theorem wm_L_15 : Cond.methodLink RL 15 yX9_piece ∈ lw_gt := gt_in (List.mem_append_right _ (List.mem_of_getElem? (i := 506) (by decide +kernel))) rfl
theorem ck_X9_piece : CkE yX9_piece cX9_piece 3 (some .int) 2 := ⟨gt_in (List.mem_append_right _ (List.mem_of_getElem? (i := 509) (by decide +kernel))) rfl, gt_in (List.mem_append_right _ (List.mem_of_getElem? (i := 1) (by decide +kernel))) rfl, by decide +kernel⟩
theorem win_X9_piece : Cond.instanceMethod yX9_piece ∈ lw_gt := gt_in (List.mem_append_right _ (List.mem_of_getElem? (i := 507) (by decide +kernel))) rfl
theorem wsel_X9_piece : Cond.selects yX9_piece.cls yX9_piece yX9_piece ∈ lw_gt := gt_in (List.mem_append_right _ (List.mem_of_getElem? (i := 508) (by decide +kernel))) rfl
theorem wm_L_47 : Cond.methodLink RL 47 yX9_told ∈ lw_gt := gt_in (List.mem_append_right _ (List.mem_of_getElem? (i := 470) (by decide +kernel))) rfl
theorem ck_X9_told : CkE yX9_told cX9_told 2 (some .int) 1 := ⟨gt_in (List.mem_append_right _ (List.mem_of_getElem? (i := 473) (by decide +kernel))) rfl, gt_in (List.mem_append_right _ (List.mem_of_getElem? (i := 1) (by decide +kernel))) rfl, by decide +kernel⟩
theorem win_X9_told : Cond.instanceMethod yX9_told ∈ lw_gt := gt_in (List.mem_append_right _ (List.mem_of_getElem? (i := 471) (by decide +kernel))) rfl
theorem wsel_X9_told : Cond.selects yX9_told.cls yX9_told yX9_told ∈ lw_gt := gt_in (List.mem_append_right _ (List.mem_of_getElem? (i := 472) (by decide +kernel))) rfl
theorem wm_L_53 : Cond.methodLink RL 53 yX9_toOld ∈ lw_gt := gt_in (List.mem_append_right _ (List.mem_of_getElem? (i := 593) (by decide +kernel))) rfl
theorem ck_X9_toOld : CkE yX9_toOld cX9_toOld 2 (some .int) 1 := ⟨gt_in (List.mem_append_right _ (List.mem_of_getElem? (i := 596) (by decide +kernel))) rfl, gt_in (List.mem_append_right _ (List.mem_of_getElem? (i := 1) (by decide +kernel))) rfl, by decide +kernel⟩
theorem win_X9_toOld : Cond.instanceMethod yX9_toOld ∈ lw_gt := gt_in (List.mem_append_right _ (List.mem_of_getElem? (i := 594) (by decide +kernel))) rfl
theorem wsel_X9_toOld : Cond.selects yX9_toOld.cls yX9_toOld yX9_toOld ∈ lw_gt := gt_in (List.mem_append_right _ (List.mem_of_getElem? (i := 595) (by decide +kernel))) rfl
theorem wm_L_56 : Cond.methodLink RL 56 yX9_toNew ∈ lw_gt := gt_in (List.mem_append_right _ (List.mem_of_getElem? (i := 601) (by decide +kernel))) rfl
theorem ck_X9_toNew : CkE yX9_toNew cX9_toNew 3 (some .int) 2 := ⟨gt_in (List.mem_append_right _ (List.mem_of_getElem? (i := 604) (by decide +kernel))) rfl, gt_in (List.mem_append_right _ (List.mem_of_getElem? (i := 1) (by decide +kernel))) rfl, by decide +kernel⟩
theorem win_X9_toNew : Cond.instanceMethod yX9_toNew ∈ lw_gt := gt_in (List.mem_append_right _ (List.mem_of_getElem? (i := 602) (by decide +kernel))) rfl
theorem wsel_X9_toNew : Cond.selects yX9_toNew.cls yX9_toNew yX9_toNew ∈ lw_gt := gt_in (List.mem_append_right _ (List.mem_of_getElem? (i := 603) (by decide +kernel))) rfl
theorem wm_L_50 : Cond.methodLink RL 50 yX9_pieceAt ∈ lw_gt := gt_in (List.mem_append_right _ (List.mem_of_getElem? (i := 585) (by decide +kernel))) rfl
theorem ck_X9_pieceAt : CkE yX9_pieceAt cX9_pieceAt 3 (some .int) 2 := ⟨gt_in (List.mem_append_right _ (List.mem_of_getElem? (i := 588) (by decide +kernel))) rfl, gt_in (List.mem_append_right _ (List.mem_of_getElem? (i := 1) (by decide +kernel))) rfl, by decide +kernel⟩
theorem win_X9_pieceAt : Cond.instanceMethod yX9_pieceAt ∈ lw_gt := gt_in (List.mem_append_right _ (List.mem_of_getElem? (i := 586) (by decide +kernel))) rfl
theorem wsel_X9_pieceAt : Cond.selects yX9_pieceAt.cls yX9_pieceAt yX9_pieceAt ∈ lw_gt := gt_in (List.mem_append_right _ (List.mem_of_getElem? (i := 587) (by decide +kernel))) rfl
theorem wm_L_59 : Cond.methodLink RL 59 yX9_part ∈ lw_gt := gt_in (List.mem_append_right _ (List.mem_of_getElem? (i := 635) (by decide +kernel))) rfl
theorem ck_X9_part : CkE yX9_part cX9_part 7 (some .int) 3 := ⟨gt_in (List.mem_append_right _ (List.mem_of_getElem? (i := 638) (by decide +kernel))) rfl, gt_in (List.mem_append_right _ (List.mem_of_getElem? (i := 1) (by decide +kernel))) rfl, by decide +kernel⟩
theorem win_X9_part : Cond.instanceMethod yX9_part ∈ lw_gt := gt_in (List.mem_append_right _ (List.mem_of_getElem? (i := 636) (by decide +kernel))) rfl
theorem wsel_X9_part : Cond.selects yX9_part.cls yX9_part yX9_part ∈ lw_gt := gt_in (List.mem_append_right _ (List.mem_of_getElem? (i := 637) (by decide +kernel))) rfl
theorem wm_L_62 : Cond.methodLink RL 62 yX9_shotAt ∈ lw_gt := gt_in (List.mem_append_right _ (List.mem_of_getElem? (i := 624) (by decide +kernel))) rfl
theorem ck_X9_shotAt : CkE yX9_shotAt cX9_shotAt 2 (some .int) 1 := ⟨gt_in (List.mem_append_right _ (List.mem_of_getElem? (i := 627) (by decide +kernel))) rfl, gt_in (List.mem_append_right _ (List.mem_of_getElem? (i := 1) (by decide +kernel))) rfl, by decide +kernel⟩
theorem win_X9_shotAt : Cond.instanceMethod yX9_shotAt ∈ lw_gt := gt_in (List.mem_append_right _ (List.mem_of_getElem? (i := 625) (by decide +kernel))) rfl
theorem wsel_X9_shotAt : Cond.selects yX9_shotAt.cls yX9_shotAt yX9_shotAt ∈ lw_gt := gt_in (List.mem_append_right _ (List.mem_of_getElem? (i := 626) (by decide +kernel))) rfl
theorem wm_L_65 : Cond.methodLink RL 65 yL_away ∈ lw_gt := gt_in (List.mem_append_right _ (List.mem_of_getElem? (i := 621) (by decide +kernel))) rfl
theorem ck_L_away : CkE yL_away cL_away 5 (some .int) 2 := ⟨gt_in (List.mem_append_right _ (List.mem_of_getElem? (i := 623) (by decide +kernel))) rfl, gt_in (List.mem_append_right _ (List.mem_of_getElem? (i := 0) (by decide +kernel))) rfl, by decide +kernel⟩
theorem wst_L_away : Cond.static yL_away ∈ lw_gt := gt_in (List.mem_append_right _ (List.mem_of_getElem? (i := 622) (by decide +kernel))) rfl
theorem wm_L_75 : Cond.methodLink RL 75 yX9_faults ∈ lw_gt := gt_in (List.mem_append_right _ (List.mem_of_getElem? (i := 709) (by decide +kernel))) rfl
theorem ck_X9_faults : CkE yX9_faults cX9_faults 2 (some .int) 1 := ⟨gt_in (List.mem_append_right _ (List.mem_of_getElem? (i := 712) (by decide +kernel))) rfl, gt_in (List.mem_append_right _ (List.mem_of_getElem? (i := 1) (by decide +kernel))) rfl, by decide +kernel⟩
theorem win_X9_faults : Cond.instanceMethod yX9_faults ∈ lw_gt := gt_in (List.mem_append_right _ (List.mem_of_getElem? (i := 710) (by decide +kernel))) rfl
theorem wsel_X9_faults : Cond.selects yX9_faults.cls yX9_faults yX9_faults ∈ lw_gt := gt_in (List.mem_append_right _ (List.mem_of_getElem? (i := 711) (by decide +kernel))) rfl
theorem wm_L_69 : Cond.methodLink RL 69 yL_isNear ∈ lw_gt := gt_in (List.mem_append_right _ (List.mem_of_getElem? (i := 618) (by decide +kernel))) rfl
theorem ck_L_isNear : CkE yL_isNear cL_isNear 3 (some .boolean) 2 := ⟨gt_in (List.mem_append_right _ (List.mem_of_getElem? (i := 620) (by decide +kernel))) rfl, gt_in (List.mem_append_right _ (List.mem_of_getElem? (i := 0) (by decide +kernel))) rfl, by decide +kernel⟩
theorem wst_L_isNear : Cond.static yL_isNear ∈ lw_gt := gt_in (List.mem_append_right _ (List.mem_of_getElem? (i := 619) (by decide +kernel))) rfl
theorem wm_L_72 : Cond.methodLink RL 72 yL_isTooWide ∈ lw_gt := gt_in (List.mem_append_right _ (List.mem_of_getElem? (i := 632) (by decide +kernel))) rfl
theorem ck_L_isTooWide : CkE yL_isTooWide cL_isTooWide 5 (some .boolean) 2 := ⟨gt_in (List.mem_append_right _ (List.mem_of_getElem? (i := 634) (by decide +kernel))) rfl, gt_in (List.mem_append_right _ (List.mem_of_getElem? (i := 0) (by decide +kernel))) rfl, by decide +kernel⟩
theorem wst_L_isTooWide : Cond.static yL_isTooWide ∈ lw_gt := gt_in (List.mem_append_right _ (List.mem_of_getElem? (i := 633) (by decide +kernel))) rfl
theorem wm_L_78 : Cond.methodLink RL 78 yL_order ∈ lw_gt := gt_in (List.mem_append_right _ (List.mem_of_getElem? (i := 612) (by decide +kernel))) rfl
theorem ck_L_order : CkE yL_order cL_order 4 (some .boolean) 1 := ⟨gt_in (List.mem_append_right _ (List.mem_of_getElem? (i := 614) (by decide +kernel))) rfl, gt_in (List.mem_append_right _ (List.mem_of_getElem? (i := 0) (by decide +kernel))) rfl, by decide +kernel⟩
theorem wst_L_order : Cond.static yL_order ∈ lw_gt := gt_in (List.mem_append_right _ (List.mem_of_getElem? (i := 613) (by decide +kernel))) rfl
theorem wm_L_84 : Cond.methodLink RL 84 yL_lines ∈ lw_gt := gt_in (List.mem_append_right _ (List.mem_of_getElem? (i := 719) (by decide +kernel))) rfl
theorem ck_L_lines : CkE yL_lines cL_lines 11 (some .boolean) 3 := ⟨gt_in (List.mem_append_right _ (List.mem_of_getElem? (i := 721) (by decide +kernel))) rfl, gt_in (List.mem_append_right _ (List.mem_of_getElem? (i := 0) (by decide +kernel))) rfl, by decide +kernel⟩
theorem wst_L_lines : Cond.static yL_lines ∈ lw_gt := gt_in (List.mem_append_right _ (List.mem_of_getElem? (i := 720) (by decide +kernel))) rfl
theorem wm_L_82 : Cond.methodLink RL 82 yL_faults ∈ lw_gt := gt_in (List.mem_append_right _ (List.mem_of_getElem? (i := 615) (by decide +kernel))) rfl
theorem ck_L_faults : CkE yL_faults cL_faults 8 (some .boolean) 1 := ⟨gt_in (List.mem_append_right _ (List.mem_of_getElem? (i := 617) (by decide +kernel))) rfl, gt_in (List.mem_append_right _ (List.mem_of_getElem? (i := 0) (by decide +kernel))) rfl, by decide +kernel⟩
theorem wst_L_faults : Cond.static yL_faults ∈ lw_gt := gt_in (List.mem_append_right _ (List.mem_of_getElem? (i := 616) (by decide +kernel))) rfl
theorem wm_L_88 : Cond.methodLink RL 88 yX9_ifConform ∈ lw_gt := gt_in (List.mem_append_right _ (List.mem_of_getElem? (i := 317) (by decide +kernel))) rfl
theorem ck_X9_ifConform : CkE yX9_ifConform cX9_ifConform 3 (some .int) 2 := ⟨gt_in (List.mem_append_right _ (List.mem_of_getElem? (i := 320) (by decide +kernel))) rfl, gt_in (List.mem_append_right _ (List.mem_of_getElem? (i := 1) (by decide +kernel))) rfl, by decide +kernel⟩
theorem win_X9_ifConform : Cond.instanceMethod yX9_ifConform ∈ lw_gt := gt_in (List.mem_append_right _ (List.mem_of_getElem? (i := 318) (by decide +kernel))) rfl
theorem wsel_X9_ifConform : Cond.selects yX9_ifConform.cls yX9_ifConform yX9_ifConform ∈ lw_gt := gt_in (List.mem_append_right _ (List.mem_of_getElem? (i := 319) (by decide +kernel))) rfl
theorem wm_L_94 : Cond.methodLink RL 94 yX9_conform ∈ lw_gt := gt_in (List.mem_append_right _ (List.mem_of_getElem? (i := 733) (by decide +kernel))) rfl
theorem ck_X9_conform : CkE yX9_conform cX9_conform 2 (some .int) 1 := ⟨gt_in (List.mem_append_right _ (List.mem_of_getElem? (i := 736) (by decide +kernel))) rfl, gt_in (List.mem_append_right _ (List.mem_of_getElem? (i := 1) (by decide +kernel))) rfl, by decide +kernel⟩
theorem win_X9_conform : Cond.instanceMethod yX9_conform ∈ lw_gt := gt_in (List.mem_append_right _ (List.mem_of_getElem? (i := 734) (by decide +kernel))) rfl
theorem wsel_X9_conform : Cond.selects yX9_conform.cls yX9_conform yX9_conform ∈ lw_gt := gt_in (List.mem_append_right _ (List.mem_of_getElem? (i := 735) (by decide +kernel))) rfl
theorem wm_L_97 : Cond.methodLink RL 97 yL_whole ∈ lw_gt := gt_in (List.mem_append_right _ (List.mem_of_getElem? (i := 609) (by decide +kernel))) rfl
theorem ck_L_whole : CkE yL_whole cL_whole 5 (some .boolean) 1 := ⟨gt_in (List.mem_append_right _ (List.mem_of_getElem? (i := 611) (by decide +kernel))) rfl, gt_in (List.mem_append_right _ (List.mem_of_getElem? (i := 0) (by decide +kernel))) rfl, by decide +kernel⟩
theorem wst_L_whole : Cond.static yL_whole ∈ lw_gt := gt_in (List.mem_append_right _ (List.mem_of_getElem? (i := 610) (by decide +kernel))) rfl
theorem wm_L_91 : Cond.methodLink RL 91 yX9_stretches ∈ lw_gt := gt_in (List.mem_append_right _ (List.mem_of_getElem? (i := 725) (by decide +kernel))) rfl
theorem ck_X9_stretches : CkE yX9_stretches cX9_stretches 2 (some .int) 1 := ⟨gt_in (List.mem_append_right _ (List.mem_of_getElem? (i := 728) (by decide +kernel))) rfl, gt_in (List.mem_append_right _ (List.mem_of_getElem? (i := 1) (by decide +kernel))) rfl, by decide +kernel⟩
theorem win_X9_stretches : Cond.instanceMethod yX9_stretches ∈ lw_gt := gt_in (List.mem_append_right _ (List.mem_of_getElem? (i := 726) (by decide +kernel))) rfl
theorem wsel_X9_stretches : Cond.selects yX9_stretches.cls yX9_stretches yX9_stretches ∈ lw_gt := gt_in (List.mem_append_right _ (List.mem_of_getElem? (i := 727) (by decide +kernel))) rfl
theorem wm_L_105 : Cond.methodLink RL 105 yL_frames ∈ lw_gt := gt_in (List.mem_append_right _ (List.mem_of_getElem? (i := 582) (by decide +kernel))) rfl
theorem ck_L_frames : CkE yL_frames cL_frames 11 (some .boolean) 2 := ⟨gt_in (List.mem_append_right _ (List.mem_of_getElem? (i := 584) (by decide +kernel))) rfl, gt_in (List.mem_append_right _ (List.mem_of_getElem? (i := 0) (by decide +kernel))) rfl, by decide +kernel⟩
theorem wst_L_frames : Cond.static yL_frames ∈ lw_gt := gt_in (List.mem_append_right _ (List.mem_of_getElem? (i := 583) (by decide +kernel))) rfl
theorem wm_L_114 : Cond.methodLink RL 114 yX9_shown ∈ lw_gt := gt_in (List.mem_append_right _ (List.mem_of_getElem? (i := 462) (by decide +kernel))) rfl
theorem ck_X9_shown : CkE yX9_shown cX9_shown 2 (some .int) 1 := ⟨gt_in (List.mem_append_right _ (List.mem_of_getElem? (i := 465) (by decide +kernel))) rfl, gt_in (List.mem_append_right _ (List.mem_of_getElem? (i := 1) (by decide +kernel))) rfl, by decide +kernel⟩
theorem win_X9_shown : Cond.instanceMethod yX9_shown ∈ lw_gt := gt_in (List.mem_append_right _ (List.mem_of_getElem? (i := 463) (by decide +kernel))) rfl
theorem wsel_X9_shown : Cond.selects yX9_shown.cls yX9_shown yX9_shown ∈ lw_gt := gt_in (List.mem_append_right _ (List.mem_of_getElem? (i := 464) (by decide +kernel))) rfl
theorem wm_L_111 : Cond.methodLink RL 111 yX9_undo ∈ lw_gt := gt_in (List.mem_append_right _ (List.mem_of_getElem? (i := 489) (by decide +kernel))) rfl
theorem ck_X9_undo : CkE yX9_undo cX9_undo 1 (some .int) 0 := ⟨gt_in (List.mem_append_right _ (List.mem_of_getElem? (i := 492) (by decide +kernel))) rfl, gt_in (List.mem_append_right _ (List.mem_of_getElem? (i := 1) (by decide +kernel))) rfl, by decide +kernel⟩
theorem win_X9_undo : Cond.instanceMethod yX9_undo ∈ lw_gt := gt_in (List.mem_append_right _ (List.mem_of_getElem? (i := 490) (by decide +kernel))) rfl
theorem wsel_X9_undo : Cond.selects yX9_undo.cls yX9_undo yX9_undo ∈ lw_gt := gt_in (List.mem_append_right _ (List.mem_of_getElem? (i := 491) (by decide +kernel))) rfl
theorem wm_L_108 : Cond.methodLink RL 108 yL_step ∈ lw_gt := gt_in (List.mem_append_right _ (List.mem_of_getElem? (i := 722) (by decide +kernel))) rfl
theorem ck_L_step : CkE yL_step cL_step 13 (some .boolean) 2 := ⟨gt_in (List.mem_append_right _ (List.mem_of_getElem? (i := 724) (by decide +kernel))) rfl, gt_in (List.mem_append_right _ (List.mem_of_getElem? (i := 0) (by decide +kernel))) rfl, by decide +kernel⟩
theorem wst_L_step : Cond.static yL_step ∈ lw_gt := gt_in (List.mem_append_right _ (List.mem_of_getElem? (i := 723) (by decide +kernel))) rfl
