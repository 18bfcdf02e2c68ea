/-! the law: the words of its calls (printed by wip/whole/gen/lawgen.py) -/
theorem vm_X9_piece : Cond.methodLink RL 13 yX9_piece ∈ lw_gt := gt_in (List.mem_append_right _ (List.mem_of_getElem? (i := 232) (by decide +kernel))) rfl
theorem vi_X9_piece : Cond.instanceMethod yX9_piece ∈ lw_gt := gt_in (List.mem_append_right _ (List.mem_of_getElem? (i := 233) (by decide +kernel))) rfl
theorem vs_X9_piece : Cond.selects yX9_piece.cls yX9_piece yX9_piece ∈ lw_gt := gt_in (List.mem_append_right _ (List.mem_of_getElem? (i := 234) (by decide +kernel))) rfl
theorem vk_X9_piece : CkE yX9_piece cX9_piece 3 (some .int) 2 := ⟨gt_in (List.mem_append_right _ (List.mem_of_getElem? (i := 235) (by decide +kernel))) rfl, wz_X9, by decide +kernel⟩
theorem vm_X10_piece : Cond.methodLink RL 17 yX10_piece ∈ lw_gt := gt_in (List.mem_append_right _ (List.mem_of_getElem? (i := 802) (by decide +kernel))) rfl
theorem vi_X10_piece : Cond.instanceMethod yX10_piece ∈ lw_gt := gt_in (List.mem_append_right _ (List.mem_of_getElem? (i := 803) (by decide +kernel))) rfl
theorem vs_X10_piece : Cond.selects yX10_piece.cls yX10_piece yX10_piece ∈ lw_gt := gt_in (List.mem_append_right _ (List.mem_of_getElem? (i := 804) (by decide +kernel))) rfl
theorem vk_X10_piece : CkE yX10_piece cX10_piece 4 (some .int) 2 := ⟨gt_in (List.mem_append_right _ (List.mem_of_getElem? (i := 805) (by decide +kernel))) rfl, wz_X10, by decide +kernel⟩
theorem vm_X9_dropPiece : Cond.methodLink RL 18 yX9_dropPiece ∈ lw_gt := gt_in (List.mem_append_right _ (List.mem_of_getElem? (i := 289) (by decide +kernel))) rfl
theorem vi_X9_dropPiece : Cond.instanceMethod yX9_dropPiece ∈ lw_gt := gt_in (List.mem_append_right _ (List.mem_of_getElem? (i := 290) (by decide +kernel))) rfl
theorem vs_X9_dropPiece : Cond.selects yX9_dropPiece.cls yX9_dropPiece yX9_dropPiece ∈ lw_gt := gt_in (List.mem_append_right _ (List.mem_of_getElem? (i := 291) (by decide +kernel))) rfl
theorem vk_X9_dropPiece : CkE yX9_dropPiece cX9_dropPiece 2 (some .int) 1 := ⟨gt_in (List.mem_append_right _ (List.mem_of_getElem? (i := 292) (by decide +kernel))) rfl, wz_X9, by decide +kernel⟩
theorem vm_X10_dropPiece : Cond.methodLink RL 22 yX10_dropPiece ∈ lw_gt := gt_in (List.mem_append_right _ (List.mem_of_getElem? (i := 825) (by decide +kernel))) rfl
theorem vi_X10_dropPiece : Cond.instanceMethod yX10_dropPiece ∈ lw_gt := gt_in (List.mem_append_right _ (List.mem_of_getElem? (i := 826) (by decide +kernel))) rfl
theorem vs_X10_dropPiece : Cond.selects yX10_dropPiece.cls yX10_dropPiece yX10_dropPiece ∈ lw_gt := gt_in (List.mem_append_right _ (List.mem_of_getElem? (i := 827) (by decide +kernel))) rfl
theorem vk_X10_dropPiece : CkE yX10_dropPiece cX10_dropPiece 3 (some .int) 1 := ⟨gt_in (List.mem_append_right _ (List.mem_of_getElem? (i := 828) (by decide +kernel))) rfl, wz_X10, by decide +kernel⟩
theorem vm_X9_pieceAt : Cond.methodLink RL 23 yX9_pieceAt ∈ lw_gt := gt_in (List.mem_append_right _ (List.mem_of_getElem? (i := 302) (by decide +kernel))) rfl
theorem vi_X9_pieceAt : Cond.instanceMethod yX9_pieceAt ∈ lw_gt := gt_in (List.mem_append_right _ (List.mem_of_getElem? (i := 303) (by decide +kernel))) rfl
theorem vs_X9_pieceAt : Cond.selects yX9_pieceAt.cls yX9_pieceAt yX9_pieceAt ∈ lw_gt := gt_in (List.mem_append_right _ (List.mem_of_getElem? (i := 304) (by decide +kernel))) rfl
theorem vk_X9_pieceAt : CkE yX9_pieceAt cX9_pieceAt 3 (some .int) 2 := ⟨gt_in (List.mem_append_right _ (List.mem_of_getElem? (i := 305) (by decide +kernel))) rfl, wz_X9, by decide +kernel⟩
theorem vm_X10_pieceAt : Cond.methodLink RL 26 yX10_pieceAt ∈ lw_gt := gt_in (List.mem_append_right _ (List.mem_of_getElem? (i := 833) (by decide +kernel))) rfl
theorem vi_X10_pieceAt : Cond.instanceMethod yX10_pieceAt ∈ lw_gt := gt_in (List.mem_append_right _ (List.mem_of_getElem? (i := 834) (by decide +kernel))) rfl
theorem vs_X10_pieceAt : Cond.selects yX10_pieceAt.cls yX10_pieceAt yX10_pieceAt ∈ lw_gt := gt_in (List.mem_append_right _ (List.mem_of_getElem? (i := 835) (by decide +kernel))) rfl
theorem vk_X10_pieceAt : CkE yX10_pieceAt cX10_pieceAt 3 (some .int) 2 := ⟨gt_in (List.mem_append_right _ (List.mem_of_getElem? (i := 836) (by decide +kernel))) rfl, wz_X10, by decide +kernel⟩
theorem vm_X9_shot : Cond.methodLink RL 27 yX9_shot ∈ lw_gt := gt_in (List.mem_append_right _ (List.mem_of_getElem? (i := 315) (by decide +kernel))) rfl
theorem vi_X9_shot : Cond.instanceMethod yX9_shot ∈ lw_gt := gt_in (List.mem_append_right _ (List.mem_of_getElem? (i := 316) (by decide +kernel))) rfl
theorem vs_X9_shot : Cond.selects yX9_shot.cls yX9_shot yX9_shot ∈ lw_gt := gt_in (List.mem_append_right _ (List.mem_of_getElem? (i := 317) (by decide +kernel))) rfl
theorem vk_X9_shot : CkE yX9_shot cX9_shot 3 (some .int) 2 := ⟨gt_in (List.mem_append_right _ (List.mem_of_getElem? (i := 318) (by decide +kernel))) rfl, wz_X9, by decide +kernel⟩
theorem vm_X10_shot : Cond.methodLink RL 31 yX10_shot ∈ lw_gt := gt_in (List.mem_append_right _ (List.mem_of_getElem? (i := 841) (by decide +kernel))) rfl
theorem vi_X10_shot : Cond.instanceMethod yX10_shot ∈ lw_gt := gt_in (List.mem_append_right _ (List.mem_of_getElem? (i := 842) (by decide +kernel))) rfl
theorem vs_X10_shot : Cond.selects yX10_shot.cls yX10_shot yX10_shot ∈ lw_gt := gt_in (List.mem_append_right _ (List.mem_of_getElem? (i := 843) (by decide +kernel))) rfl
theorem vk_X10_shot : CkE yX10_shot cX10_shot 6 (some .int) 2 := ⟨gt_in (List.mem_append_right _ (List.mem_of_getElem? (i := 844) (by decide +kernel))) rfl, wz_X10, by decide +kernel⟩
theorem vm_X9_shotAt : Cond.methodLink RL 32 yX9_shotAt ∈ lw_gt := gt_in (List.mem_append_right _ (List.mem_of_getElem? (i := 343) (by decide +kernel))) rfl
theorem vi_X9_shotAt : Cond.instanceMethod yX9_shotAt ∈ lw_gt := gt_in (List.mem_append_right _ (List.mem_of_getElem? (i := 344) (by decide +kernel))) rfl
theorem vs_X9_shotAt : Cond.selects yX9_shotAt.cls yX9_shotAt yX9_shotAt ∈ lw_gt := gt_in (List.mem_append_right _ (List.mem_of_getElem? (i := 345) (by decide +kernel))) rfl
theorem vk_X9_shotAt : CkE yX9_shotAt cX9_shotAt 2 (some .int) 1 := ⟨gt_in (List.mem_append_right _ (List.mem_of_getElem? (i := 346) (by decide +kernel))) rfl, wz_X9, by decide +kernel⟩
theorem vm_X10_shotAt : Cond.methodLink RL 35 yX10_shotAt ∈ lw_gt := gt_in (List.mem_append_right _ (List.mem_of_getElem? (i := 849) (by decide +kernel))) rfl
theorem vi_X10_shotAt : Cond.instanceMethod yX10_shotAt ∈ lw_gt := gt_in (List.mem_append_right _ (List.mem_of_getElem? (i := 850) (by decide +kernel))) rfl
theorem vs_X10_shotAt : Cond.selects yX10_shotAt.cls yX10_shotAt yX10_shotAt ∈ lw_gt := gt_in (List.mem_append_right _ (List.mem_of_getElem? (i := 851) (by decide +kernel))) rfl
theorem vk_X10_shotAt : CkE yX10_shotAt cX10_shotAt 2 (some .int) 1 := ⟨gt_in (List.mem_append_right _ (List.mem_of_getElem? (i := 852) (by decide +kernel))) rfl, wz_X10, by decide +kernel⟩
theorem vm_X9_toNew : Cond.methodLink RL 36 yX9_toNew ∈ lw_gt := gt_in (List.mem_append_right _ (List.mem_of_getElem? (i := 351) (by decide +kernel))) rfl
theorem vi_X9_toNew : Cond.instanceMethod yX9_toNew ∈ lw_gt := gt_in (List.mem_append_right _ (List.mem_of_getElem? (i := 352) (by decide +kernel))) rfl
theorem vs_X9_toNew : Cond.selects yX9_toNew.cls yX9_toNew yX9_toNew ∈ lw_gt := gt_in (List.mem_append_right _ (List.mem_of_getElem? (i := 353) (by decide +kernel))) rfl
theorem vk_X9_toNew : CkE yX9_toNew cX9_toNew 3 (some .int) 2 := ⟨gt_in (List.mem_append_right _ (List.mem_of_getElem? (i := 354) (by decide +kernel))) rfl, wz_X9, by decide +kernel⟩
theorem vm_X10_toNew : Cond.methodLink RL 39 yX10_toNew ∈ lw_gt := gt_in (List.mem_append_right _ (List.mem_of_getElem? (i := 853) (by decide +kernel))) rfl
theorem vi_X10_toNew : Cond.instanceMethod yX10_toNew ∈ lw_gt := gt_in (List.mem_append_right _ (List.mem_of_getElem? (i := 854) (by decide +kernel))) rfl
theorem vs_X10_toNew : Cond.selects yX10_toNew.cls yX10_toNew yX10_toNew ∈ lw_gt := gt_in (List.mem_append_right _ (List.mem_of_getElem? (i := 855) (by decide +kernel))) rfl
theorem vk_X10_toNew : CkE yX10_toNew cX10_toNew 6 (some .int) 2 := ⟨gt_in (List.mem_append_right _ (List.mem_of_getElem? (i := 856) (by decide +kernel))) rfl, wz_X10, by decide +kernel⟩
theorem vm_X9_toOld : Cond.methodLink RL 40 yX9_toOld ∈ lw_gt := gt_in (List.mem_append_right _ (List.mem_of_getElem? (i := 359) (by decide +kernel))) rfl
theorem vi_X9_toOld : Cond.instanceMethod yX9_toOld ∈ lw_gt := gt_in (List.mem_append_right _ (List.mem_of_getElem? (i := 360) (by decide +kernel))) rfl
theorem vs_X9_toOld : Cond.selects yX9_toOld.cls yX9_toOld yX9_toOld ∈ lw_gt := gt_in (List.mem_append_right _ (List.mem_of_getElem? (i := 361) (by decide +kernel))) rfl
theorem vk_X9_toOld : CkE yX9_toOld cX9_toOld 2 (some .int) 1 := ⟨gt_in (List.mem_append_right _ (List.mem_of_getElem? (i := 362) (by decide +kernel))) rfl, wz_X9, by decide +kernel⟩
theorem vm_X10_toOld : Cond.methodLink RL 43 yX10_toOld ∈ lw_gt := gt_in (List.mem_append_right _ (List.mem_of_getElem? (i := 857) (by decide +kernel))) rfl
theorem vi_X10_toOld : Cond.instanceMethod yX10_toOld ∈ lw_gt := gt_in (List.mem_append_right _ (List.mem_of_getElem? (i := 858) (by decide +kernel))) rfl
theorem vs_X10_toOld : Cond.selects yX10_toOld.cls yX10_toOld yX10_toOld ∈ lw_gt := gt_in (List.mem_append_right _ (List.mem_of_getElem? (i := 859) (by decide +kernel))) rfl
theorem vk_X10_toOld : CkE yX10_toOld cX10_toOld 4 (some .int) 1 := ⟨gt_in (List.mem_append_right _ (List.mem_of_getElem? (i := 860) (by decide +kernel))) rfl, wz_X10, by decide +kernel⟩
theorem vm_X9_type : Cond.methodLink RL 44 yX9_type ∈ lw_gt := gt_in (List.mem_append_right _ (List.mem_of_getElem? (i := 367) (by decide +kernel))) rfl
theorem vi_X9_type : Cond.instanceMethod yX9_type ∈ lw_gt := gt_in (List.mem_append_right _ (List.mem_of_getElem? (i := 368) (by decide +kernel))) rfl
theorem vs_X9_type : Cond.selects yX9_type.cls yX9_type yX9_type ∈ lw_gt := gt_in (List.mem_append_right _ (List.mem_of_getElem? (i := 369) (by decide +kernel))) rfl
theorem vk_X9_type : CkE yX9_type cX9_type 2 (some .int) 1 := ⟨gt_in (List.mem_append_right _ (List.mem_of_getElem? (i := 370) (by decide +kernel))) rfl, wz_X9, by decide +kernel⟩
theorem vm_X10_type : Cond.methodLink RL 47 yX10_type ∈ lw_gt := gt_in (List.mem_append_right _ (List.mem_of_getElem? (i := 861) (by decide +kernel))) rfl
theorem vi_X10_type : Cond.instanceMethod yX10_type ∈ lw_gt := gt_in (List.mem_append_right _ (List.mem_of_getElem? (i := 862) (by decide +kernel))) rfl
theorem vs_X10_type : Cond.selects yX10_type.cls yX10_type yX10_type ∈ lw_gt := gt_in (List.mem_append_right _ (List.mem_of_getElem? (i := 863) (by decide +kernel))) rfl
theorem vk_X10_type : CkE yX10_type cX10_type 2 (some .int) 1 := ⟨gt_in (List.mem_append_right _ (List.mem_of_getElem? (i := 864) (by decide +kernel))) rfl, wz_X10, by decide +kernel⟩
theorem vm_X9_clear : Cond.methodLink RL 48 yX9_clear ∈ lw_gt := gt_in (List.mem_append_right _ (List.mem_of_getElem? (i := 371) (by decide +kernel))) rfl
theorem vi_X9_clear : Cond.instanceMethod yX9_clear ∈ lw_gt := gt_in (List.mem_append_right _ (List.mem_of_getElem? (i := 372) (by decide +kernel))) rfl
theorem vs_X9_clear : Cond.selects yX9_clear.cls yX9_clear yX9_clear ∈ lw_gt := gt_in (List.mem_append_right _ (List.mem_of_getElem? (i := 373) (by decide +kernel))) rfl
theorem vk_X9_clear : CkE yX9_clear cX9_clear 2 (some .int) 0 := ⟨gt_in (List.mem_append_right _ (List.mem_of_getElem? (i := 374) (by decide +kernel))) rfl, wz_X9, by decide +kernel⟩
theorem vm_X10_clear : Cond.methodLink RL 52 yX10_clear ∈ lw_gt := gt_in (List.mem_append_right _ (List.mem_of_getElem? (i := 865) (by decide +kernel))) rfl
theorem vi_X10_clear : Cond.instanceMethod yX10_clear ∈ lw_gt := gt_in (List.mem_append_right _ (List.mem_of_getElem? (i := 866) (by decide +kernel))) rfl
theorem vs_X10_clear : Cond.selects yX10_clear.cls yX10_clear yX10_clear ∈ lw_gt := gt_in (List.mem_append_right _ (List.mem_of_getElem? (i := 867) (by decide +kernel))) rfl
theorem vk_X10_clear : CkE yX10_clear cX10_clear 2 (some .int) 0 := ⟨gt_in (List.mem_append_right _ (List.mem_of_getElem? (i := 868) (by decide +kernel))) rfl, wz_X10, by decide +kernel⟩
theorem vm_X9_add : Cond.methodLink RL 53 yX9_add ∈ lw_gt := gt_in (List.mem_append_right _ (List.mem_of_getElem? (i := 375) (by decide +kernel))) rfl
theorem vi_X9_add : Cond.instanceMethod yX9_add ∈ lw_gt := gt_in (List.mem_append_right _ (List.mem_of_getElem? (i := 376) (by decide +kernel))) rfl
theorem vs_X9_add : Cond.selects yX9_add.cls yX9_add yX9_add ∈ lw_gt := gt_in (List.mem_append_right _ (List.mem_of_getElem? (i := 377) (by decide +kernel))) rfl
theorem vk_X9_add : CkE yX9_add cX9_add 5 (some .int) 3 := ⟨gt_in (List.mem_append_right _ (List.mem_of_getElem? (i := 378) (by decide +kernel))) rfl, wz_X9, by decide +kernel⟩
theorem vm_X10_add : Cond.methodLink RL 57 yX10_add ∈ lw_gt := gt_in (List.mem_append_right _ (List.mem_of_getElem? (i := 869) (by decide +kernel))) rfl
theorem vi_X10_add : Cond.instanceMethod yX10_add ∈ lw_gt := gt_in (List.mem_append_right _ (List.mem_of_getElem? (i := 870) (by decide +kernel))) rfl
theorem vs_X10_add : Cond.selects yX10_add.cls yX10_add yX10_add ∈ lw_gt := gt_in (List.mem_append_right _ (List.mem_of_getElem? (i := 871) (by decide +kernel))) rfl
theorem vk_X10_add : CkE yX10_add cX10_add 6 (some .int) 3 := ⟨gt_in (List.mem_append_right _ (List.mem_of_getElem? (i := 872) (by decide +kernel))) rfl, wz_X10, by decide +kernel⟩
theorem vm_X9_drop : Cond.methodLink RL 58 yX9_drop ∈ lw_gt := gt_in (List.mem_append_right _ (List.mem_of_getElem? (i := 403) (by decide +kernel))) rfl
theorem vi_X9_drop : Cond.instanceMethod yX9_drop ∈ lw_gt := gt_in (List.mem_append_right _ (List.mem_of_getElem? (i := 404) (by decide +kernel))) rfl
theorem vs_X9_drop : Cond.selects yX9_drop.cls yX9_drop yX9_drop ∈ lw_gt := gt_in (List.mem_append_right _ (List.mem_of_getElem? (i := 405) (by decide +kernel))) rfl
theorem vk_X9_drop : CkE yX9_drop cX9_drop 2 (some .int) 1 := ⟨gt_in (List.mem_append_right _ (List.mem_of_getElem? (i := 406) (by decide +kernel))) rfl, wz_X9, by decide +kernel⟩
theorem vm_X10_drop : Cond.methodLink RL 61 yX10_drop ∈ lw_gt := gt_in (List.mem_append_right _ (List.mem_of_getElem? (i := 908) (by decide +kernel))) rfl
theorem vi_X10_drop : Cond.instanceMethod yX10_drop ∈ lw_gt := gt_in (List.mem_append_right _ (List.mem_of_getElem? (i := 909) (by decide +kernel))) rfl
theorem vs_X10_drop : Cond.selects yX10_drop.cls yX10_drop yX10_drop ∈ lw_gt := gt_in (List.mem_append_right _ (List.mem_of_getElem? (i := 910) (by decide +kernel))) rfl
theorem vk_X10_drop : CkE yX10_drop cX10_drop 4 (some .int) 1 := ⟨gt_in (List.mem_append_right _ (List.mem_of_getElem? (i := 911) (by decide +kernel))) rfl, wz_X10, by decide +kernel⟩
theorem vm_X9_move : Cond.methodLink RL 62 yX9_move ∈ lw_gt := gt_in (List.mem_append_right _ (List.mem_of_getElem? (i := 416) (by decide +kernel))) rfl
theorem vi_X9_move : Cond.instanceMethod yX9_move ∈ lw_gt := gt_in (List.mem_append_right _ (List.mem_of_getElem? (i := 417) (by decide +kernel))) rfl
theorem vs_X9_move : Cond.selects yX9_move.cls yX9_move yX9_move ∈ lw_gt := gt_in (List.mem_append_right _ (List.mem_of_getElem? (i := 418) (by decide +kernel))) rfl
theorem vk_X9_move : CkE yX9_move cX9_move 4 (some .int) 3 := ⟨gt_in (List.mem_append_right _ (List.mem_of_getElem? (i := 419) (by decide +kernel))) rfl, wz_X9, by decide +kernel⟩
theorem vm_X10_move : Cond.methodLink RL 65 yX10_move ∈ lw_gt := gt_in (List.mem_append_right _ (List.mem_of_getElem? (i := 920) (by decide +kernel))) rfl
theorem vi_X10_move : Cond.instanceMethod yX10_move ∈ lw_gt := gt_in (List.mem_append_right _ (List.mem_of_getElem? (i := 921) (by decide +kernel))) rfl
theorem vs_X10_move : Cond.selects yX10_move.cls yX10_move yX10_move ∈ lw_gt := gt_in (List.mem_append_right _ (List.mem_of_getElem? (i := 922) (by decide +kernel))) rfl
theorem vk_X10_move : CkE yX10_move cX10_move 6 (some .int) 3 := ⟨gt_in (List.mem_append_right _ (List.mem_of_getElem? (i := 923) (by decide +kernel))) rfl, wz_X10, by decide +kernel⟩
theorem vm_X9_subtitle : Cond.methodLink RL 66 yX9_subtitle ∈ lw_gt := gt_in (List.mem_append_right _ (List.mem_of_getElem? (i := 425) (by decide +kernel))) rfl
theorem vi_X9_subtitle : Cond.instanceMethod yX9_subtitle ∈ lw_gt := gt_in (List.mem_append_right _ (List.mem_of_getElem? (i := 426) (by decide +kernel))) rfl
theorem vs_X9_subtitle : Cond.selects yX9_subtitle.cls yX9_subtitle yX9_subtitle ∈ lw_gt := gt_in (List.mem_append_right _ (List.mem_of_getElem? (i := 427) (by decide +kernel))) rfl
theorem vk_X9_subtitle : CkE yX9_subtitle cX9_subtitle 4 (some .int) 2 := ⟨gt_in (List.mem_append_right _ (List.mem_of_getElem? (i := 428) (by decide +kernel))) rfl, wz_X9, by decide +kernel⟩
theorem vm_X10_subtitle : Cond.methodLink RL 69 yX10_subtitle ∈ lw_gt := gt_in (List.mem_append_right _ (List.mem_of_getElem? (i := 924) (by decide +kernel))) rfl
theorem vi_X10_subtitle : Cond.instanceMethod yX10_subtitle ∈ lw_gt := gt_in (List.mem_append_right _ (List.mem_of_getElem? (i := 925) (by decide +kernel))) rfl
theorem vs_X10_subtitle : Cond.selects yX10_subtitle.cls yX10_subtitle yX10_subtitle ∈ lw_gt := gt_in (List.mem_append_right _ (List.mem_of_getElem? (i := 926) (by decide +kernel))) rfl
theorem vk_X10_subtitle : CkE yX10_subtitle cX10_subtitle 3 (some .int) 2 := ⟨gt_in (List.mem_append_right _ (List.mem_of_getElem? (i := 927) (by decide +kernel))) rfl, wz_X10, by decide +kernel⟩
theorem vm_X9_part : Cond.methodLink RL 70 yX9_part ∈ lw_gt := gt_in (List.mem_append_right _ (List.mem_of_getElem? (i := 492) (by decide +kernel))) rfl
theorem vi_X9_part : Cond.instanceMethod yX9_part ∈ lw_gt := gt_in (List.mem_append_right _ (List.mem_of_getElem? (i := 493) (by decide +kernel))) rfl
theorem vs_X9_part : Cond.selects yX9_part.cls yX9_part yX9_part ∈ lw_gt := gt_in (List.mem_append_right _ (List.mem_of_getElem? (i := 494) (by decide +kernel))) rfl
theorem vk_X9_part : CkE yX9_part cX9_part 7 (some .int) 3 := ⟨gt_in (List.mem_append_right _ (List.mem_of_getElem? (i := 495) (by decide +kernel))) rfl, wz_X9, by decide +kernel⟩
theorem vm_X10_part : Cond.methodLink RL 73 yX10_part ∈ lw_gt := gt_in (List.mem_append_right _ (List.mem_of_getElem? (i := 984) (by decide +kernel))) rfl
theorem vi_X10_part : Cond.instanceMethod yX10_part ∈ lw_gt := gt_in (List.mem_append_right _ (List.mem_of_getElem? (i := 985) (by decide +kernel))) rfl
theorem vs_X10_part : Cond.selects yX10_part.cls yX10_part yX10_part ∈ lw_gt := gt_in (List.mem_append_right _ (List.mem_of_getElem? (i := 986) (by decide +kernel))) rfl
theorem vk_X10_part : CkE yX10_part cX10_part 4 (some .int) 3 := ⟨gt_in (List.mem_append_right _ (List.mem_of_getElem? (i := 987) (by decide +kernel))) rfl, wz_X10, by decide +kernel⟩
theorem vm_X9_set : Cond.methodLink RL 74 yX9_set ∈ lw_gt := gt_in (List.mem_append_right _ (List.mem_of_getElem? (i := 567) (by decide +kernel))) rfl
theorem vi_X9_set : Cond.instanceMethod yX9_set ∈ lw_gt := gt_in (List.mem_append_right _ (List.mem_of_getElem? (i := 568) (by decide +kernel))) rfl
theorem vs_X9_set : Cond.selects yX9_set.cls yX9_set yX9_set ∈ lw_gt := gt_in (List.mem_append_right _ (List.mem_of_getElem? (i := 569) (by decide +kernel))) rfl
theorem vk_X9_set : CkE yX9_set cX9_set 4 (some .int) 2 := ⟨gt_in (List.mem_append_right _ (List.mem_of_getElem? (i := 570) (by decide +kernel))) rfl, wz_X9, by decide +kernel⟩
theorem vm_X10_set : Cond.methodLink RL 77 yX10_set ∈ lw_gt := gt_in (List.mem_append_right _ (List.mem_of_getElem? (i := 996) (by decide +kernel))) rfl
theorem vi_X10_set : Cond.instanceMethod yX10_set ∈ lw_gt := gt_in (List.mem_append_right _ (List.mem_of_getElem? (i := 997) (by decide +kernel))) rfl
theorem vs_X10_set : Cond.selects yX10_set.cls yX10_set yX10_set ∈ lw_gt := gt_in (List.mem_append_right _ (List.mem_of_getElem? (i := 998) (by decide +kernel))) rfl
theorem vk_X10_set : CkE yX10_set cX10_set 4 (some .int) 2 := ⟨gt_in (List.mem_append_right _ (List.mem_of_getElem? (i := 999) (by decide +kernel))) rfl, wz_X10, by decide +kernel⟩
theorem vm_X9_conform : Cond.methodLink RL 78 yX9_conform ∈ lw_gt := gt_in (List.mem_append_right _ (List.mem_of_getElem? (i := 583) (by decide +kernel))) rfl
theorem vi_X9_conform : Cond.instanceMethod yX9_conform ∈ lw_gt := gt_in (List.mem_append_right _ (List.mem_of_getElem? (i := 584) (by decide +kernel))) rfl
theorem vs_X9_conform : Cond.selects yX9_conform.cls yX9_conform yX9_conform ∈ lw_gt := gt_in (List.mem_append_right _ (List.mem_of_getElem? (i := 585) (by decide +kernel))) rfl
theorem vk_X9_conform : CkE yX9_conform cX9_conform 2 (some .int) 1 := ⟨gt_in (List.mem_append_right _ (List.mem_of_getElem? (i := 586) (by decide +kernel))) rfl, wz_X9, by decide +kernel⟩
theorem vm_X10_conform : Cond.methodLink RL 81 yX10_conform ∈ lw_gt := gt_in (List.mem_append_right _ (List.mem_of_getElem? (i := 1000) (by decide +kernel))) rfl
theorem vi_X10_conform : Cond.instanceMethod yX10_conform ∈ lw_gt := gt_in (List.mem_append_right _ (List.mem_of_getElem? (i := 1001) (by decide +kernel))) rfl
theorem vs_X10_conform : Cond.selects yX10_conform.cls yX10_conform yX10_conform ∈ lw_gt := gt_in (List.mem_append_right _ (List.mem_of_getElem? (i := 1002) (by decide +kernel))) rfl
theorem vk_X10_conform : CkE yX10_conform cX10_conform 2 (some .int) 1 := ⟨gt_in (List.mem_append_right _ (List.mem_of_getElem? (i := 1003) (by decide +kernel))) rfl, wz_X10, by decide +kernel⟩
theorem vm_X9_ifConform : Cond.methodLink RL 82 yX9_ifConform ∈ lw_gt := gt_in (List.mem_append_right _ (List.mem_of_getElem? (i := 657) (by decide +kernel))) rfl
theorem vi_X9_ifConform : Cond.instanceMethod yX9_ifConform ∈ lw_gt := gt_in (List.mem_append_right _ (List.mem_of_getElem? (i := 658) (by decide +kernel))) rfl
theorem vs_X9_ifConform : Cond.selects yX9_ifConform.cls yX9_ifConform yX9_ifConform ∈ lw_gt := gt_in (List.mem_append_right _ (List.mem_of_getElem? (i := 659) (by decide +kernel))) rfl
theorem vk_X9_ifConform : CkE yX9_ifConform cX9_ifConform 3 (some .int) 2 := ⟨gt_in (List.mem_append_right _ (List.mem_of_getElem? (i := 660) (by decide +kernel))) rfl, wz_X9, by decide +kernel⟩
theorem vm_X10_ifConform : Cond.methodLink RL 85 yX10_ifConform ∈ lw_gt := gt_in (List.mem_append_right _ (List.mem_of_getElem? (i := 1036) (by decide +kernel))) rfl
theorem vi_X10_ifConform : Cond.instanceMethod yX10_ifConform ∈ lw_gt := gt_in (List.mem_append_right _ (List.mem_of_getElem? (i := 1037) (by decide +kernel))) rfl
theorem vs_X10_ifConform : Cond.selects yX10_ifConform.cls yX10_ifConform yX10_ifConform ∈ lw_gt := gt_in (List.mem_append_right _ (List.mem_of_getElem? (i := 1038) (by decide +kernel))) rfl
theorem vk_X10_ifConform : CkE yX10_ifConform cX10_ifConform 3 (some .int) 2 := ⟨gt_in (List.mem_append_right _ (List.mem_of_getElem? (i := 1039) (by decide +kernel))) rfl, wz_X10, by decide +kernel⟩
theorem vm_X9_stretches : Cond.methodLink RL 86 yX9_stretches ∈ lw_gt := gt_in (List.mem_append_right _ (List.mem_of_getElem? (i := 677) (by decide +kernel))) rfl
theorem vi_X9_stretches : Cond.instanceMethod yX9_stretches ∈ lw_gt := gt_in (List.mem_append_right _ (List.mem_of_getElem? (i := 678) (by decide +kernel))) rfl
theorem vs_X9_stretches : Cond.selects yX9_stretches.cls yX9_stretches yX9_stretches ∈ lw_gt := gt_in (List.mem_append_right _ (List.mem_of_getElem? (i := 679) (by decide +kernel))) rfl
theorem vk_X9_stretches : CkE yX9_stretches cX9_stretches 2 (some .int) 1 := ⟨gt_in (List.mem_append_right _ (List.mem_of_getElem? (i := 680) (by decide +kernel))) rfl, wz_X9, by decide +kernel⟩
theorem vm_X10_stretches : Cond.methodLink RL 89 yX10_stretches ∈ lw_gt := gt_in (List.mem_append_right _ (List.mem_of_getElem? (i := 1044) (by decide +kernel))) rfl
theorem vi_X10_stretches : Cond.instanceMethod yX10_stretches ∈ lw_gt := gt_in (List.mem_append_right _ (List.mem_of_getElem? (i := 1045) (by decide +kernel))) rfl
theorem vs_X10_stretches : Cond.selects yX10_stretches.cls yX10_stretches yX10_stretches ∈ lw_gt := gt_in (List.mem_append_right _ (List.mem_of_getElem? (i := 1046) (by decide +kernel))) rfl
theorem vk_X10_stretches : CkE yX10_stretches cX10_stretches 2 (some .int) 1 := ⟨gt_in (List.mem_append_right _ (List.mem_of_getElem? (i := 1047) (by decide +kernel))) rfl, wz_X10, by decide +kernel⟩
theorem vm_X9_shown : Cond.methodLink RL 90 yX9_shown ∈ lw_gt := gt_in (List.mem_append_right _ (List.mem_of_getElem? (i := 685) (by decide +kernel))) rfl
theorem vi_X9_shown : Cond.instanceMethod yX9_shown ∈ lw_gt := gt_in (List.mem_append_right _ (List.mem_of_getElem? (i := 686) (by decide +kernel))) rfl
theorem vs_X9_shown : Cond.selects yX9_shown.cls yX9_shown yX9_shown ∈ lw_gt := gt_in (List.mem_append_right _ (List.mem_of_getElem? (i := 687) (by decide +kernel))) rfl
theorem vk_X9_shown : CkE yX9_shown cX9_shown 2 (some .int) 1 := ⟨gt_in (List.mem_append_right _ (List.mem_of_getElem? (i := 688) (by decide +kernel))) rfl, wz_X9, by decide +kernel⟩
theorem vm_X10_shown : Cond.methodLink RL 93 yX10_shown ∈ lw_gt := gt_in (List.mem_append_right _ (List.mem_of_getElem? (i := 1048) (by decide +kernel))) rfl
theorem vi_X10_shown : Cond.instanceMethod yX10_shown ∈ lw_gt := gt_in (List.mem_append_right _ (List.mem_of_getElem? (i := 1049) (by decide +kernel))) rfl
theorem vs_X10_shown : Cond.selects yX10_shown.cls yX10_shown yX10_shown ∈ lw_gt := gt_in (List.mem_append_right _ (List.mem_of_getElem? (i := 1050) (by decide +kernel))) rfl
theorem vk_X10_shown : CkE yX10_shown cX10_shown 4 (some .int) 1 := ⟨gt_in (List.mem_append_right _ (List.mem_of_getElem? (i := 1051) (by decide +kernel))) rfl, wz_X10, by decide +kernel⟩
theorem vm_X9_faults : Cond.methodLink RL 94 yX9_faults ∈ lw_gt := gt_in (List.mem_append_right _ (List.mem_of_getElem? (i := 693) (by decide +kernel))) rfl
theorem vi_X9_faults : Cond.instanceMethod yX9_faults ∈ lw_gt := gt_in (List.mem_append_right _ (List.mem_of_getElem? (i := 694) (by decide +kernel))) rfl
theorem vs_X9_faults : Cond.selects yX9_faults.cls yX9_faults yX9_faults ∈ lw_gt := gt_in (List.mem_append_right _ (List.mem_of_getElem? (i := 695) (by decide +kernel))) rfl
theorem vk_X9_faults : CkE yX9_faults cX9_faults 2 (some .int) 1 := ⟨gt_in (List.mem_append_right _ (List.mem_of_getElem? (i := 696) (by decide +kernel))) rfl, wz_X9, by decide +kernel⟩
theorem vm_X10_faults : Cond.methodLink RL 97 yX10_faults ∈ lw_gt := gt_in (List.mem_append_right _ (List.mem_of_getElem? (i := 1052) (by decide +kernel))) rfl
theorem vi_X10_faults : Cond.instanceMethod yX10_faults ∈ lw_gt := gt_in (List.mem_append_right _ (List.mem_of_getElem? (i := 1053) (by decide +kernel))) rfl
theorem vs_X10_faults : Cond.selects yX10_faults.cls yX10_faults yX10_faults ∈ lw_gt := gt_in (List.mem_append_right _ (List.mem_of_getElem? (i := 1054) (by decide +kernel))) rfl
theorem vk_X10_faults : CkE yX10_faults cX10_faults 2 (some .int) 1 := ⟨gt_in (List.mem_append_right _ (List.mem_of_getElem? (i := 1055) (by decide +kernel))) rfl, wz_X10, by decide +kernel⟩
theorem vm_X9_told : Cond.methodLink RL 98 yX9_told ∈ lw_gt := gt_in (List.mem_append_right _ (List.mem_of_getElem? (i := 703) (by decide +kernel))) rfl
theorem vi_X9_told : Cond.instanceMethod yX9_told ∈ lw_gt := gt_in (List.mem_append_right _ (List.mem_of_getElem? (i := 704) (by decide +kernel))) rfl
theorem vs_X9_told : Cond.selects yX9_told.cls yX9_told yX9_told ∈ lw_gt := gt_in (List.mem_append_right _ (List.mem_of_getElem? (i := 705) (by decide +kernel))) rfl
theorem vk_X9_told : CkE yX9_told cX9_told 2 (some .int) 1 := ⟨gt_in (List.mem_append_right _ (List.mem_of_getElem? (i := 706) (by decide +kernel))) rfl, wz_X9, by decide +kernel⟩
theorem vm_X10_told : Cond.methodLink RL 101 yX10_told ∈ lw_gt := gt_in (List.mem_append_right _ (List.mem_of_getElem? (i := 1060) (by decide +kernel))) rfl
theorem vi_X10_told : Cond.instanceMethod yX10_told ∈ lw_gt := gt_in (List.mem_append_right _ (List.mem_of_getElem? (i := 1061) (by decide +kernel))) rfl
theorem vs_X10_told : Cond.selects yX10_told.cls yX10_told yX10_told ∈ lw_gt := gt_in (List.mem_append_right _ (List.mem_of_getElem? (i := 1062) (by decide +kernel))) rfl
theorem vk_X10_told : CkE yX10_told cX10_told 2 (some .int) 1 := ⟨gt_in (List.mem_append_right _ (List.mem_of_getElem? (i := 1063) (by decide +kernel))) rfl, wz_X10, by decide +kernel⟩
theorem vm_X9_undo : Cond.methodLink RL 102 yX9_undo ∈ lw_gt := gt_in (List.mem_append_right _ (List.mem_of_getElem? (i := 715) (by decide +kernel))) rfl
theorem vi_X9_undo : Cond.instanceMethod yX9_undo ∈ lw_gt := gt_in (List.mem_append_right _ (List.mem_of_getElem? (i := 716) (by decide +kernel))) rfl
theorem vs_X9_undo : Cond.selects yX9_undo.cls yX9_undo yX9_undo ∈ lw_gt := gt_in (List.mem_append_right _ (List.mem_of_getElem? (i := 717) (by decide +kernel))) rfl
theorem vk_X9_undo : CkE yX9_undo cX9_undo 1 (some .int) 0 := ⟨gt_in (List.mem_append_right _ (List.mem_of_getElem? (i := 718) (by decide +kernel))) rfl, wz_X9, by decide +kernel⟩
theorem vm_X10_undo : Cond.methodLink RL 105 yX10_undo ∈ lw_gt := gt_in (List.mem_append_right _ (List.mem_of_getElem? (i := 1068) (by decide +kernel))) rfl
theorem vi_X10_undo : Cond.instanceMethod yX10_undo ∈ lw_gt := gt_in (List.mem_append_right _ (List.mem_of_getElem? (i := 1069) (by decide +kernel))) rfl
theorem vs_X10_undo : Cond.selects yX10_undo.cls yX10_undo yX10_undo ∈ lw_gt := gt_in (List.mem_append_right _ (List.mem_of_getElem? (i := 1070) (by decide +kernel))) rfl
theorem vk_X10_undo : CkE yX10_undo cX10_undo 2 (some .int) 0 := ⟨gt_in (List.mem_append_right _ (List.mem_of_getElem? (i := 1071) (by decide +kernel))) rfl, wz_X10, by decide +kernel⟩
theorem vm_X9_digest : Cond.methodLink RL 106 yX9_digest ∈ lw_gt := gt_in (List.mem_append_right _ (List.mem_of_getElem? (i := 723) (by decide +kernel))) rfl
theorem vi_X9_digest : Cond.instanceMethod yX9_digest ∈ lw_gt := gt_in (List.mem_append_right _ (List.mem_of_getElem? (i := 724) (by decide +kernel))) rfl
theorem vs_X9_digest : Cond.selects yX9_digest.cls yX9_digest yX9_digest ∈ lw_gt := gt_in (List.mem_append_right _ (List.mem_of_getElem? (i := 725) (by decide +kernel))) rfl
theorem vk_X9_digest : CkE yX9_digest cX9_digest 5 (some .long) 0 := ⟨gt_in (List.mem_append_right _ (List.mem_of_getElem? (i := 726) (by decide +kernel))) rfl, wz_X9, by decide +kernel⟩
theorem vm_X10_digest : Cond.methodLink RL 110 yX10_digest ∈ lw_gt := gt_in (List.mem_append_right _ (List.mem_of_getElem? (i := 1072) (by decide +kernel))) rfl
theorem vi_X10_digest : Cond.instanceMethod yX10_digest ∈ lw_gt := gt_in (List.mem_append_right _ (List.mem_of_getElem? (i := 1073) (by decide +kernel))) rfl
theorem vs_X10_digest : Cond.selects yX10_digest.cls yX10_digest yX10_digest ∈ lw_gt := gt_in (List.mem_append_right _ (List.mem_of_getElem? (i := 1074) (by decide +kernel))) rfl
theorem vk_X10_digest : CkE yX10_digest cX10_digest 5 (some .long) 0 := ⟨gt_in (List.mem_append_right _ (List.mem_of_getElem? (i := 1075) (by decide +kernel))) rfl, wz_X10, by decide +kernel⟩
set_option maxHeartbeats 4000000 in
theorem lo_piece {F : FT} {E : ET} {b L : Nat} {vx : Nat → Int32} {Q : State → Prop} {c0 s0 : Nat} {σ τ : Sg} {W : Wd} {i : Nat} (C : LC F E b L vx) (hi : i + 3 < L) (hc : c0 + 2 ≤ 600000 ∧ s0 + 42 ≤ 7302250) (hW : ClC σ W) (hm : MoC τ W) (hI : InvW W) (next : ∀ σ' τ' W', ClC σ' W' → MoC τ' W' → InvW W' → LJ F E Q (c0 + 2) (s0 + 42) σ' τ' 786 [(3, .int (jI (i : Int))), (0, .ref b), (1, .ref (adE E 0)), (2, .ref (adE E 279))] []) : LJ F E Q c0 s0 σ τ 140 [(3, .int (jI (i : Int))), (0, .ref b), (1, .ref (adE E 0)), (2, .ref (adE E 279))] [] := by
  have g1 : rgI (vx (i + 1)).toInt := rgI_of _
  generalize ex1 : (vx (i + 1)).toInt = x1 at g1
  have g2 : rgI (vx (i + 2)).toInt := rgI_of _
  generalize ex2 : (vx (i + 2)).toInt = x2 at g2
  refine L_aload_n C.1 dL_law_140 rfl 2 rfl ?_
  refine L_aload_n C.1 dL_law_141 rfl 1 rfl ?_
  refine L_iload_n C.1 dL_law_142 rfl 0 rfl ?_
  refine L_iconst C.1 dL_law_143 ?_
  refine L_iadd C.1 dL_law_144 ?_
  refine L_sld C (j := i + 1) (by omega) (by omega) dL_law_145 ?_
  rw [ex1]
  refine L_aload_n C.1 dL_law_146 rfl 1 rfl ?_
  refine L_iload_n C.1 dL_law_147 rfl 0 rfl ?_
  refine L_iconst C.1 dL_law_148 ?_
  refine L_iadd C.1 dL_law_149 ?_
  refine L_sld C (j := i + 2) (by omega) (by omega) dL_law_150 ?_
  rw [ex2]
  have h1 := c_piece (Q := fun r c' => r = (pieceS W x1 x2).r ∧ ClC c' (pieceS W x1 x2).W) hW hI (x := x1) (y := x2) (fun c' hc' => ⟨rfl, hc'⟩)
  refine L_Vc C.1 C.2.2.2.2.2.2.1 C.2.2.2.2.2.2.2 (ct_X9_piece C.2.2.2.2.2.2.1 g1 g2 h1) vk_X9_piece vm_X9_piece vi_X9_piece vs_X9_piece rfl (clE_k E σ kc0) ⟨rfl, rfl⟩ (by decide) ⟨by show c0 ≤ 600000; omega, by show s0 ≤ 7302250; omega⟩ (fun _ _ z => qI_n z) (As := [.int (jI x1), .int (jI x2)]) (rest := []) rfl rfl (Nat.le_of_ble_eq_true rfl) dL_law_151 (L_kI (fun r1 σ1 gr1 hr1 _ => ?_))
  obtain ⟨hr1, hW1⟩ := hr1
  refine L_aload_n C.1 dL_law_154 rfl 3 rfl ?_
  refine L_aload_n C.1 dL_law_155 rfl 1 rfl ?_
  refine L_iload_n C.1 dL_law_156 rfl 0 rfl ?_
  refine L_iconst C.1 dL_law_157 ?_
  refine L_iadd C.1 dL_law_158 ?_
  refine L_sld C (j := i + 1) (by omega) (by omega) dL_law_159 ?_
  rw [ex1]
  refine L_aload_n C.1 dL_law_160 rfl 1 rfl ?_
  refine L_iload_n C.1 dL_law_161 rfl 0 rfl ?_
  refine L_iconst C.1 dL_law_162 ?_
  refine L_iadd C.1 dL_law_163 ?_
  refine L_sld C (j := i + 2) (by omega) (by omega) dL_law_164 ?_
  rw [ex2]
  have h2 := m_piece (Q := fun r m' => r = (pieceS W x1 x2).r ∧ MoC m' (pieceS W x1 x2).W) hm hI (x := x1) (y := x2) (fun m' hm' => ⟨rfl, hm'⟩)
  refine L_Vm C.2.1 C.2.2.2.2.2.2.1 C.2.2.2.2.2.2.2 (ct_X10_piece rfl g1 g2 h2) vk_X10_piece vm_X10_piece vi_X10_piece vs_X10_piece rfl (clE_k _ τ kc279) ⟨rfl, rfl⟩ (by decide) ⟨by show c0 ≤ 600000; omega, by show s0 ≤ 7302250; omega⟩ (As := [.int (jI x1), .int (jI x2)]) (rest := [.int (jI r1)]) rfl rfl (Nat.le_of_ble_eq_true rfl) dL_law_165 (L_kIm (fun r2 τ1 gr2 hr2 _ => ?_))
  obtain ⟨hr2, hm1⟩ := hr2
  refine L_icmp_eq C.1 gr1 gr2 (tgt := 786) dL_law_168 (by decide) (fun _ => ?_) (fun z => absurd (hr1.trans hr2.symm) z)
  exact LJ.widen (by omega) (by omega) (next _ _ _ hW1 hm1 (inv_piece hI x1 x2))
set_option maxHeartbeats 4000000 in
theorem lo_dropPiece {F : FT} {E : ET} {b L : Nat} {vx : Nat → Int32} {Q : State → Prop} {c0 s0 : Nat} {σ τ : Sg} {W : Wd} {i : Nat} (C : LC F E b L vx) (hi : i + 3 < L) (hc : c0 + 2 ≤ 600000 ∧ s0 + 42 ≤ 7302250) (hW : ClC σ W) (hm : MoC τ W) (hI : InvW W) (next : ∀ σ' τ' W', ClC σ' W' → MoC τ' W' → InvW W' → LJ F E Q (c0 + 2) (s0 + 42) σ' τ' 786 [(3, .int (jI (i : Int))), (0, .ref b), (1, .ref (adE E 0)), (2, .ref (adE E 279))] []) : LJ F E Q c0 s0 σ τ 173 [(3, .int (jI (i : Int))), (0, .ref b), (1, .ref (adE E 0)), (2, .ref (adE E 279))] [] := by
  have g1 : rgI (vx (i + 1)).toInt := rgI_of _
  generalize ex1 : (vx (i + 1)).toInt = x1 at g1
  refine L_aload_n C.1 dL_law_173 rfl 2 rfl ?_
  refine L_aload_n C.1 dL_law_174 rfl 1 rfl ?_
  refine L_iload_n C.1 dL_law_175 rfl 0 rfl ?_
  refine L_iconst C.1 dL_law_176 ?_
  refine L_iadd C.1 dL_law_177 ?_
  refine L_sld C (j := i + 1) (by omega) (by omega) dL_law_178 ?_
  rw [ex1]
  have h1 := c_dropPiece (Q := fun r c' => r = (dropPieceS W x1).r ∧ ClC c' (dropPieceS W x1).W) hW hI (x := x1) (fun c' hc' => ⟨rfl, hc'⟩)
  refine L_Vc C.1 C.2.2.2.2.2.2.1 C.2.2.2.2.2.2.2 (ct_X9_dropPiece C.2.2.2.2.2.2.1 g1 h1) vk_X9_dropPiece vm_X9_dropPiece vi_X9_dropPiece vs_X9_dropPiece rfl (clE_k E σ kc0) ⟨rfl, rfl⟩ (by decide) ⟨by show c0 ≤ 600000; omega, by show s0 ≤ 7302250; omega⟩ (fun _ _ z => qI_n z) (As := [.int (jI x1)]) (rest := []) rfl rfl (Nat.le_of_ble_eq_true rfl) dL_law_179 (L_kI (fun r1 σ1 gr1 hr1 _ => ?_))
  obtain ⟨hr1, hW1⟩ := hr1
  refine L_aload_n C.1 dL_law_182 rfl 3 rfl ?_
  refine L_aload_n C.1 dL_law_183 rfl 1 rfl ?_
  refine L_iload_n C.1 dL_law_184 rfl 0 rfl ?_
  refine L_iconst C.1 dL_law_185 ?_
  refine L_iadd C.1 dL_law_186 ?_
  refine L_sld C (j := i + 1) (by omega) (by omega) dL_law_187 ?_
  rw [ex1]
  have h2 := m_dropPiece (Q := fun r m' => r = (dropPieceS W x1).r ∧ MoC m' (dropPieceS W x1).W) hm hI (x := x1) (fun m' hm' => ⟨rfl, hm'⟩)
  refine L_Vm C.2.1 C.2.2.2.2.2.2.1 C.2.2.2.2.2.2.2 (ct_X10_dropPiece rfl g1 h2) vk_X10_dropPiece vm_X10_dropPiece vi_X10_dropPiece vs_X10_dropPiece rfl (clE_k _ τ kc279) ⟨rfl, rfl⟩ (by decide) ⟨by show c0 ≤ 600000; omega, by show s0 ≤ 7302250; omega⟩ (As := [.int (jI x1)]) (rest := [.int (jI r1)]) rfl rfl (Nat.le_of_ble_eq_true rfl) dL_law_188 (L_kIm (fun r2 τ1 gr2 hr2 _ => ?_))
  obtain ⟨hr2, hm1⟩ := hr2
  refine L_icmp_eq C.1 gr1 gr2 (tgt := 786) dL_law_191 (by decide) (fun _ => ?_) (fun z => absurd (hr1.trans hr2.symm) z)
  exact LJ.widen (by omega) (by omega) (next _ _ _ hW1 hm1 (inv_dropPiece hI x1))
set_option maxHeartbeats 4000000 in
theorem lo_pieceAt {F : FT} {E : ET} {b L : Nat} {vx : Nat → Int32} {Q : State → Prop} {c0 s0 : Nat} {σ τ : Sg} {W : Wd} {i : Nat} (C : LC F E b L vx) (hi : i + 3 < L) (hc : c0 + 2 ≤ 600000 ∧ s0 + 42 ≤ 7302250) (hW : ClC σ W) (hm : MoC τ W) (hI : InvW W) (next : ∀ σ' τ' W', ClC σ' W' → MoC τ' W' → InvW W' → LJ F E Q (c0 + 2) (s0 + 42) σ' τ' 786 [(3, .int (jI (i : Int))), (0, .ref b), (1, .ref (adE E 0)), (2, .ref (adE E 279))] []) : LJ F E Q c0 s0 σ τ 196 [(3, .int (jI (i : Int))), (0, .ref b), (1, .ref (adE E 0)), (2, .ref (adE E 279))] [] := by
  have g1 : rgI (vx (i + 1)).toInt := rgI_of _
  generalize ex1 : (vx (i + 1)).toInt = x1 at g1
  have g2 : rgI (vx (i + 2)).toInt := rgI_of _
  generalize ex2 : (vx (i + 2)).toInt = x2 at g2
  refine L_aload_n C.1 dL_law_196 rfl 2 rfl ?_
  refine L_aload_n C.1 dL_law_197 rfl 1 rfl ?_
  refine L_iload_n C.1 dL_law_198 rfl 0 rfl ?_
  refine L_iconst C.1 dL_law_199 ?_
  refine L_iadd C.1 dL_law_200 ?_
  refine L_sld C (j := i + 1) (by omega) (by omega) dL_law_201 ?_
  rw [ex1]
  refine L_aload_n C.1 dL_law_202 rfl 1 rfl ?_
  refine L_iload_n C.1 dL_law_203 rfl 0 rfl ?_
  refine L_iconst C.1 dL_law_204 ?_
  refine L_iadd C.1 dL_law_205 ?_
  refine L_sld C (j := i + 2) (by omega) (by omega) dL_law_206 ?_
  rw [ex2]
  have h1 := c_pieceAt (Q := fun r => r = pieceAtQ W.A x1 x2) hW hI (p := x1) (x := x2) rfl
  refine L_Vc C.1 C.2.2.2.2.2.2.1 C.2.2.2.2.2.2.2 (ct_X9_pieceAt C.2.2.2.2.2.2.1 g1 g2 h1) vk_X9_pieceAt vm_X9_pieceAt vi_X9_pieceAt vs_X9_pieceAt rfl (clE_k E σ kc0) ⟨rfl, rfl⟩ (by decide) ⟨by show c0 ≤ 600000; omega, by show s0 ≤ 7302250; omega⟩ (fun _ _ z => qI_n z) (As := [.int (jI x1), .int (jI x2)]) (rest := []) rfl rfl (Nat.le_of_ble_eq_true rfl) dL_law_207 (L_pI (fun r1 gr1 hr1 => ?_))
  have hW1 := hW
  refine L_aload_n C.1 dL_law_210 rfl 3 rfl ?_
  refine L_aload_n C.1 dL_law_211 rfl 1 rfl ?_
  refine L_iload_n C.1 dL_law_212 rfl 0 rfl ?_
  refine L_iconst C.1 dL_law_213 ?_
  refine L_iadd C.1 dL_law_214 ?_
  refine L_sld C (j := i + 1) (by omega) (by omega) dL_law_215 ?_
  rw [ex1]
  refine L_aload_n C.1 dL_law_216 rfl 1 rfl ?_
  refine L_iload_n C.1 dL_law_217 rfl 0 rfl ?_
  refine L_iconst C.1 dL_law_218 ?_
  refine L_iadd C.1 dL_law_219 ?_
  refine L_sld C (j := i + 2) (by omega) (by omega) dL_law_220 ?_
  rw [ex2]
  have h2 := m_pieceAt (Q := fun r => r = pieceAtQ W.A x1 x2) hm hI (p := x1) (x := x2) rfl
  refine L_Vm C.2.1 C.2.2.2.2.2.2.1 C.2.2.2.2.2.2.2 (ct_X10_pieceAt rfl g1 g2 h2) vk_X10_pieceAt vm_X10_pieceAt vi_X10_pieceAt vs_X10_pieceAt rfl (clE_k _ τ kc279) ⟨rfl, rfl⟩ (by decide) ⟨by show c0 ≤ 600000; omega, by show s0 ≤ 7302250; omega⟩ (As := [.int (jI x1), .int (jI x2)]) (rest := [.int (jI r1)]) rfl rfl (Nat.le_of_ble_eq_true rfl) dL_law_221 (L_pIm (fun r2 gr2 hr2 => ?_))
  have hm1 := hm
  refine L_icmp_eq C.1 gr1 gr2 (tgt := 786) dL_law_224 (by decide) (fun _ => ?_) (fun z => absurd (hr1.trans hr2.symm) z)
  exact LJ.widen (by omega) (by omega) (next _ _ _ hW1 hm1 (hI))
set_option maxHeartbeats 4000000 in
theorem lo_shot {F : FT} {E : ET} {b L : Nat} {vx : Nat → Int32} {Q : State → Prop} {c0 s0 : Nat} {σ τ : Sg} {W : Wd} {i : Nat} (C : LC F E b L vx) (hi : i + 3 < L) (hc : c0 + 2 ≤ 600000 ∧ s0 + 42 ≤ 7302250) (hW : ClC σ W) (hm : MoC τ W) (hI : InvW W) (next : ∀ σ' τ' W', ClC σ' W' → MoC τ' W' → InvW W' → LJ F E Q (c0 + 2) (s0 + 42) σ' τ' 786 [(3, .int (jI (i : Int))), (0, .ref b), (1, .ref (adE E 0)), (2, .ref (adE E 279))] []) : LJ F E Q c0 s0 σ τ 229 [(3, .int (jI (i : Int))), (0, .ref b), (1, .ref (adE E 0)), (2, .ref (adE E 279))] [] := by
  have g1 : rgI (vx (i + 1)).toInt := rgI_of _
  generalize ex1 : (vx (i + 1)).toInt = x1 at g1
  have g2 : rgI (vx (i + 2)).toInt := rgI_of _
  generalize ex2 : (vx (i + 2)).toInt = x2 at g2
  obtain ⟨on, hon⟩ : ∃ on : Int, on = if x2 = 0 then 0 else 1 := ⟨_, rfl⟩
  have gon : rgI on := by rw [hon]; split <;> exact ⟨by decide, by decide⟩
  refine L_aload_n C.1 dL_law_229 rfl 2 rfl ?_
  refine L_aload_n C.1 dL_law_230 rfl 1 rfl ?_
  refine L_iload_n C.1 dL_law_231 rfl 0 rfl ?_
  refine L_iconst C.1 dL_law_232 ?_
  refine L_iadd C.1 dL_law_233 ?_
  refine L_sld C (j := i + 1) (by omega) (by omega) dL_law_234 ?_
  rw [ex1]
  refine L_aload_n C.1 dL_law_235 rfl 1 rfl ?_
  refine L_iload_n C.1 dL_law_236 rfl 0 rfl ?_
  refine L_iconst C.1 dL_law_237 ?_
  refine L_iadd C.1 dL_law_238 ?_
  refine L_sld C (j := i + 2) (by omega) (by omega) dL_law_239 ?_
  rw [ex2]
  suffices hJ : LJ F E Q c0 s0 σ τ 248 [(3, .int (jI (i : Int))), (0, .ref b), (1, .ref (adE E 0)), (2, .ref (adE E 279))] (.int (jI on) :: [.int (jI x1), .ref (adE E 0)]) by
    refine L_if_eq C.1 g2 (tgt := 247) dL_law_240 (by decide) (fun q => ?_) (fun q => ?_)
    · refine L_iconst C.1 dL_law_247 ?_
      have e : on = 0 := by rw [hon, if_pos q]
      rw [e] at hJ
      exact hJ
    · refine L_iconst C.1 dL_law_243 ?_
      refine L_goto C.1 (tgt := 248) dL_law_244 (by decide) ?_
      have e : on = 1 := by rw [hon, if_neg q]
      rw [e] at hJ
      exact hJ
  have h1 := c_shot (Q := fun r c' => r = (shotS W x1 on).r ∧ ClC c' (shotS W x1 on).W) hW hI (x := x1) (on := on) (fun c' hc' => ⟨rfl, hc'⟩)
  refine L_Vc C.1 C.2.2.2.2.2.2.1 C.2.2.2.2.2.2.2 (ct_X9_shot C.2.2.2.2.2.2.1 g1 gon h1) vk_X9_shot vm_X9_shot vi_X9_shot vs_X9_shot rfl (clE_k E σ kc0) ⟨rfl, rfl⟩ (by decide) ⟨by show c0 ≤ 600000; omega, by show s0 ≤ 7302250; omega⟩ (fun _ _ z => qI_n z) (As := [.int (jI x1), .int (jI on)]) (rest := []) rfl rfl (Nat.le_of_ble_eq_true rfl) dL_law_248 (L_kI (fun r1 σ1 gr1 hr1 _ => ?_))
  obtain ⟨hr1, hW1⟩ := hr1
  refine L_aload_n C.1 dL_law_251 rfl 3 rfl ?_
  refine L_aload_n C.1 dL_law_252 rfl 1 rfl ?_
  refine L_iload_n C.1 dL_law_253 rfl 0 rfl ?_
  refine L_iconst C.1 dL_law_254 ?_
  refine L_iadd C.1 dL_law_255 ?_
  refine L_sld C (j := i + 1) (by omega) (by omega) dL_law_256 ?_
  rw [ex1]
  refine L_aload_n C.1 dL_law_257 rfl 1 rfl ?_
  refine L_iload_n C.1 dL_law_258 rfl 0 rfl ?_
  refine L_iconst C.1 dL_law_259 ?_
  refine L_iadd C.1 dL_law_260 ?_
  refine L_sld C (j := i + 2) (by omega) (by omega) dL_law_261 ?_
  rw [ex2]
  suffices hJ : LJ F E Q c0 s0 σ1 τ 270 [(3, .int (jI (i : Int))), (0, .ref b), (1, .ref (adE E 0)), (2, .ref (adE E 279))] (.int (jI on) :: [.int (jI x1), .ref (adE E 279), .int (jI r1)]) by
    refine L_if_eq C.1 g2 (tgt := 269) dL_law_262 (by decide) (fun q => ?_) (fun q => ?_)
    · refine L_iconst C.1 dL_law_269 ?_
      have e : on = 0 := by rw [hon, if_pos q]
      rw [e] at hJ
      exact hJ
    · refine L_iconst C.1 dL_law_265 ?_
      refine L_goto C.1 (tgt := 270) dL_law_266 (by decide) ?_
      have e : on = 1 := by rw [hon, if_neg q]
      rw [e] at hJ
      exact hJ
  have h2 := m_shot (Q := fun r m' => r = (shotS W x1 on).r ∧ MoC m' (shotS W x1 on).W) hm hI (x := x1) (on := on) (fun m' hm' => ⟨rfl, hm'⟩)
  refine L_Vm C.2.1 C.2.2.2.2.2.2.1 C.2.2.2.2.2.2.2 (ct_X10_shot rfl g1 gon h2) vk_X10_shot vm_X10_shot vi_X10_shot vs_X10_shot rfl (clE_k _ τ kc279) ⟨rfl, rfl⟩ (by decide) ⟨by show c0 ≤ 600000; omega, by show s0 ≤ 7302250; omega⟩ (As := [.int (jI x1), .int (jI on)]) (rest := [.int (jI r1)]) rfl rfl (Nat.le_of_ble_eq_true rfl) dL_law_270 (L_kIm (fun r2 τ1 gr2 hr2 _ => ?_))
  obtain ⟨hr2, hm1⟩ := hr2
  refine L_icmp_eq C.1 gr1 gr2 (tgt := 786) dL_law_273 (by decide) (fun _ => ?_) (fun z => absurd (hr1.trans hr2.symm) z)
  exact LJ.widen (by omega) (by omega) (next _ _ _ hW1 hm1 (inv_shot hI x1 on))
set_option maxHeartbeats 4000000 in
theorem lo_shotAt {F : FT} {E : ET} {b L : Nat} {vx : Nat → Int32} {Q : State → Prop} {c0 s0 : Nat} {σ τ : Sg} {W : Wd} {i : Nat} (C : LC F E b L vx) (hi : i + 3 < L) (hc : c0 + 2 ≤ 600000 ∧ s0 + 42 ≤ 7302250) (hW : ClC σ W) (hm : MoC τ W) (hI : InvW W) (next : ∀ σ' τ' W', ClC σ' W' → MoC τ' W' → InvW W' → LJ F E Q (c0 + 2) (s0 + 42) σ' τ' 786 [(3, .int (jI (i : Int))), (0, .ref b), (1, .ref (adE E 0)), (2, .ref (adE E 279))] []) : LJ F E Q c0 s0 σ τ 278 [(3, .int (jI (i : Int))), (0, .ref b), (1, .ref (adE E 0)), (2, .ref (adE E 279))] [] := by
  have g1 : rgI (vx (i + 1)).toInt := rgI_of _
  generalize ex1 : (vx (i + 1)).toInt = x1 at g1
  refine L_aload_n C.1 dL_law_278 rfl 2 rfl ?_
  refine L_aload_n C.1 dL_law_279 rfl 1 rfl ?_
  refine L_iload_n C.1 dL_law_280 rfl 0 rfl ?_
  refine L_iconst C.1 dL_law_281 ?_
  refine L_iadd C.1 dL_law_282 ?_
  refine L_sld C (j := i + 1) (by omega) (by omega) dL_law_283 ?_
  rw [ex1]
  have h1 := c_shotAt (Q := fun r => r = shotAtQ W.A x1) hW hI (k := x1) rfl
  refine L_Vc C.1 C.2.2.2.2.2.2.1 C.2.2.2.2.2.2.2 (ct_X9_shotAt C.2.2.2.2.2.2.1 g1 h1) vk_X9_shotAt vm_X9_shotAt vi_X9_shotAt vs_X9_shotAt rfl (clE_k E σ kc0) ⟨rfl, rfl⟩ (by decide) ⟨by show c0 ≤ 600000; omega, by show s0 ≤ 7302250; omega⟩ (fun _ _ z => qI_n z) (As := [.int (jI x1)]) (rest := []) rfl rfl (Nat.le_of_ble_eq_true rfl) dL_law_284 (L_pI (fun r1 gr1 hr1 => ?_))
  have hW1 := hW
  refine L_aload_n C.1 dL_law_287 rfl 3 rfl ?_
  refine L_aload_n C.1 dL_law_288 rfl 1 rfl ?_
  refine L_iload_n C.1 dL_law_289 rfl 0 rfl ?_
  refine L_iconst C.1 dL_law_290 ?_
  refine L_iadd C.1 dL_law_291 ?_
  refine L_sld C (j := i + 1) (by omega) (by omega) dL_law_292 ?_
  rw [ex1]
  have h2 := m_shotAt (Q := fun r => r = shotAtQ W.A x1) hm hI (k := x1) rfl
  refine L_Vm C.2.1 C.2.2.2.2.2.2.1 C.2.2.2.2.2.2.2 (ct_X10_shotAt rfl g1 h2) vk_X10_shotAt vm_X10_shotAt vi_X10_shotAt vs_X10_shotAt rfl (clE_k _ τ kc279) ⟨rfl, rfl⟩ (by decide) ⟨by show c0 ≤ 600000; omega, by show s0 ≤ 7302250; omega⟩ (As := [.int (jI x1)]) (rest := [.int (jI r1)]) rfl rfl (Nat.le_of_ble_eq_true rfl) dL_law_293 (L_pIm (fun r2 gr2 hr2 => ?_))
  have hm1 := hm
  refine L_icmp_eq C.1 gr1 gr2 (tgt := 786) dL_law_296 (by decide) (fun _ => ?_) (fun z => absurd (hr1.trans hr2.symm) z)
  exact LJ.widen (by omega) (by omega) (next _ _ _ hW1 hm1 (hI))
set_option maxHeartbeats 4000000 in
theorem lo_toNew {F : FT} {E : ET} {b L : Nat} {vx : Nat → Int32} {Q : State → Prop} {c0 s0 : Nat} {σ τ : Sg} {W : Wd} {i : Nat} (C : LC F E b L vx) (hi : i + 3 < L) (hc : c0 + 2 ≤ 600000 ∧ s0 + 42 ≤ 7302250) (hW : ClC σ W) (hm : MoC τ W) (hI : InvW W) (next : ∀ σ' τ' W', ClC σ' W' → MoC τ' W' → InvW W' → LJ F E Q (c0 + 2) (s0 + 42) σ' τ' 786 [(3, .int (jI (i : Int))), (0, .ref b), (1, .ref (adE E 0)), (2, .ref (adE E 279))] []) : LJ F E Q c0 s0 σ τ 301 [(3, .int (jI (i : Int))), (0, .ref b), (1, .ref (adE E 0)), (2, .ref (adE E 279))] [] := by
  have g1 : rgI (vx (i + 1)).toInt := rgI_of _
  generalize ex1 : (vx (i + 1)).toInt = x1 at g1
  have g2 : rgI (vx (i + 2)).toInt := rgI_of _
  generalize ex2 : (vx (i + 2)).toInt = x2 at g2
  refine L_aload_n C.1 dL_law_301 rfl 2 rfl ?_
  refine L_aload_n C.1 dL_law_302 rfl 1 rfl ?_
  refine L_iload_n C.1 dL_law_303 rfl 0 rfl ?_
  refine L_iconst C.1 dL_law_304 ?_
  refine L_iadd C.1 dL_law_305 ?_
  refine L_sld C (j := i + 1) (by omega) (by omega) dL_law_306 ?_
  rw [ex1]
  refine L_aload_n C.1 dL_law_307 rfl 1 rfl ?_
  refine L_iload_n C.1 dL_law_308 rfl 0 rfl ?_
  refine L_iconst C.1 dL_law_309 ?_
  refine L_iadd C.1 dL_law_310 ?_
  refine L_sld C (j := i + 2) (by omega) (by omega) dL_law_311 ?_
  rw [ex2]
  have h1 := c_toNew (Q := fun r => r = toNewQ W.A x1 x2) hW hI (x := x1) (k := x2) g2.2 rfl
  refine L_Vc C.1 C.2.2.2.2.2.2.1 C.2.2.2.2.2.2.2 (ct_X9_toNew C.2.2.2.2.2.2.1 g1 g2 h1) vk_X9_toNew vm_X9_toNew vi_X9_toNew vs_X9_toNew rfl (clE_k E σ kc0) ⟨rfl, rfl⟩ (by decide) ⟨by show c0 ≤ 600000; omega, by show s0 ≤ 7302250; omega⟩ (fun _ _ z => qI_n z) (As := [.int (jI x1), .int (jI x2)]) (rest := []) rfl rfl (Nat.le_of_ble_eq_true rfl) dL_law_312 (L_pI (fun r1 gr1 hr1 => ?_))
  have hW1 := hW
  refine L_aload_n C.1 dL_law_315 rfl 3 rfl ?_
  refine L_aload_n C.1 dL_law_316 rfl 1 rfl ?_
  refine L_iload_n C.1 dL_law_317 rfl 0 rfl ?_
  refine L_iconst C.1 dL_law_318 ?_
  refine L_iadd C.1 dL_law_319 ?_
  refine L_sld C (j := i + 1) (by omega) (by omega) dL_law_320 ?_
  rw [ex1]
  refine L_aload_n C.1 dL_law_321 rfl 1 rfl ?_
  refine L_iload_n C.1 dL_law_322 rfl 0 rfl ?_
  refine L_iconst C.1 dL_law_323 ?_
  refine L_iadd C.1 dL_law_324 ?_
  refine L_sld C (j := i + 2) (by omega) (by omega) dL_law_325 ?_
  rw [ex2]
  have h2 := m_toNew (Q := fun r => r = toNewQ W.A x1 x2) hm hI (x := x1) (k := x2) g2.2 rfl
  refine L_Vm C.2.1 C.2.2.2.2.2.2.1 C.2.2.2.2.2.2.2 (ct_X10_toNew rfl g1 g2 h2) vk_X10_toNew vm_X10_toNew vi_X10_toNew vs_X10_toNew rfl (clE_k _ τ kc279) ⟨rfl, rfl⟩ (by decide) ⟨by show c0 ≤ 600000; omega, by show s0 ≤ 7302250; omega⟩ (As := [.int (jI x1), .int (jI x2)]) (rest := [.int (jI r1)]) rfl rfl (Nat.le_of_ble_eq_true rfl) dL_law_326 (L_pIm (fun r2 gr2 hr2 => ?_))
  have hm1 := hm
  refine L_icmp_eq C.1 gr1 gr2 (tgt := 786) dL_law_329 (by decide) (fun _ => ?_) (fun z => absurd (hr1.trans hr2.symm) z)
  exact LJ.widen (by omega) (by omega) (next _ _ _ hW1 hm1 (hI))
set_option maxHeartbeats 4000000 in
theorem lo_toOld {F : FT} {E : ET} {b L : Nat} {vx : Nat → Int32} {Q : State → Prop} {c0 s0 : Nat} {σ τ : Sg} {W : Wd} {i : Nat} (C : LC F E b L vx) (hi : i + 3 < L) (hc : c0 + 2 ≤ 600000 ∧ s0 + 42 ≤ 7302250) (hW : ClC σ W) (hm : MoC τ W) (hI : InvW W) (next : ∀ σ' τ' W', ClC σ' W' → MoC τ' W' → InvW W' → LJ F E Q (c0 + 2) (s0 + 42) σ' τ' 786 [(3, .int (jI (i : Int))), (0, .ref b), (1, .ref (adE E 0)), (2, .ref (adE E 279))] []) : LJ F E Q c0 s0 σ τ 334 [(3, .int (jI (i : Int))), (0, .ref b), (1, .ref (adE E 0)), (2, .ref (adE E 279))] [] := by
  have g1 : rgI (vx (i + 1)).toInt := rgI_of _
  generalize ex1 : (vx (i + 1)).toInt = x1 at g1
  refine L_aload_n C.1 dL_law_334 rfl 2 rfl ?_
  refine L_aload_n C.1 dL_law_335 rfl 1 rfl ?_
  refine L_iload_n C.1 dL_law_336 rfl 0 rfl ?_
  refine L_iconst C.1 dL_law_337 ?_
  refine L_iadd C.1 dL_law_338 ?_
  refine L_sld C (j := i + 1) (by omega) (by omega) dL_law_339 ?_
  rw [ex1]
  have h1 := c_toOld (Q := fun r => r = toOldQ W.A x1) hW hI (x := x1) rfl
  refine L_Vc C.1 C.2.2.2.2.2.2.1 C.2.2.2.2.2.2.2 (ct_X9_toOld C.2.2.2.2.2.2.1 g1 h1) vk_X9_toOld vm_X9_toOld vi_X9_toOld vs_X9_toOld rfl (clE_k E σ kc0) ⟨rfl, rfl⟩ (by decide) ⟨by show c0 ≤ 600000; omega, by show s0 ≤ 7302250; omega⟩ (fun _ _ z => qI_n z) (As := [.int (jI x1)]) (rest := []) rfl rfl (Nat.le_of_ble_eq_true rfl) dL_law_340 (L_pI (fun r1 gr1 hr1 => ?_))
  have hW1 := hW
  refine L_aload_n C.1 dL_law_343 rfl 3 rfl ?_
  refine L_aload_n C.1 dL_law_344 rfl 1 rfl ?_
  refine L_iload_n C.1 dL_law_345 rfl 0 rfl ?_
  refine L_iconst C.1 dL_law_346 ?_
  refine L_iadd C.1 dL_law_347 ?_
  refine L_sld C (j := i + 1) (by omega) (by omega) dL_law_348 ?_
  rw [ex1]
  have h2 := m_toOld (Q := fun r => r = toOldQ W.A x1) hm hI (x := x1) rfl
  refine L_Vm C.2.1 C.2.2.2.2.2.2.1 C.2.2.2.2.2.2.2 (ct_X10_toOld rfl g1 h2) vk_X10_toOld vm_X10_toOld vi_X10_toOld vs_X10_toOld rfl (clE_k _ τ kc279) ⟨rfl, rfl⟩ (by decide) ⟨by show c0 ≤ 600000; omega, by show s0 ≤ 7302250; omega⟩ (As := [.int (jI x1)]) (rest := [.int (jI r1)]) rfl rfl (Nat.le_of_ble_eq_true rfl) dL_law_349 (L_pIm (fun r2 gr2 hr2 => ?_))
  have hm1 := hm
  refine L_icmp_eq C.1 gr1 gr2 (tgt := 786) dL_law_352 (by decide) (fun _ => ?_) (fun z => absurd (hr1.trans hr2.symm) z)
  exact LJ.widen (by omega) (by omega) (next _ _ _ hW1 hm1 (hI))
set_option maxHeartbeats 4000000 in
theorem lo_type {F : FT} {E : ET} {b L : Nat} {vx : Nat → Int32} {Q : State → Prop} {c0 s0 : Nat} {σ τ : Sg} {W : Wd} {i : Nat} (C : LC F E b L vx) (hi : i + 3 < L) (hc : c0 + 2 ≤ 600000 ∧ s0 + 42 ≤ 7302250) (hW : ClC σ W) (hm : MoC τ W) (hI : InvW W) (next : ∀ σ' τ' W', ClC σ' W' → MoC τ' W' → InvW W' → LJ F E Q (c0 + 2) (s0 + 42) σ' τ' 786 [(3, .int (jI (i : Int))), (0, .ref b), (1, .ref (adE E 0)), (2, .ref (adE E 279))] []) : LJ F E Q c0 s0 σ τ 357 [(3, .int (jI (i : Int))), (0, .ref b), (1, .ref (adE E 0)), (2, .ref (adE E 279))] [] := by
  have g1 : rgI (vx (i + 1)).toInt := rgI_of _
  generalize ex1 : (vx (i + 1)).toInt = x1 at g1
  refine L_aload_n C.1 dL_law_357 rfl 2 rfl ?_
  refine L_aload_n C.1 dL_law_358 rfl 1 rfl ?_
  refine L_iload_n C.1 dL_law_359 rfl 0 rfl ?_
  refine L_iconst C.1 dL_law_360 ?_
  refine L_iadd C.1 dL_law_361 ?_
  refine L_sld C (j := i + 1) (by omega) (by omega) dL_law_362 ?_
  rw [ex1]
  have h1 := c_type (Q := fun r c' => r = (typeS W x1).r ∧ ClC c' (typeS W x1).W) hW hI (x := x1) (fun c' hc' => ⟨rfl, hc'⟩)
  refine L_Vc C.1 C.2.2.2.2.2.2.1 C.2.2.2.2.2.2.2 (ct_X9_type C.2.2.2.2.2.2.1 g1 h1) vk_X9_type vm_X9_type vi_X9_type vs_X9_type rfl (clE_k E σ kc0) ⟨rfl, rfl⟩ (by decide) ⟨by show c0 ≤ 600000; omega, by show s0 ≤ 7302250; omega⟩ (fun _ _ z => qI_n z) (As := [.int (jI x1)]) (rest := []) rfl rfl (Nat.le_of_ble_eq_true rfl) dL_law_363 (L_kI (fun r1 σ1 gr1 hr1 _ => ?_))
  obtain ⟨hr1, hW1⟩ := hr1
  refine L_aload_n C.1 dL_law_366 rfl 3 rfl ?_
  refine L_aload_n C.1 dL_law_367 rfl 1 rfl ?_
  refine L_iload_n C.1 dL_law_368 rfl 0 rfl ?_
  refine L_iconst C.1 dL_law_369 ?_
  refine L_iadd C.1 dL_law_370 ?_
  refine L_sld C (j := i + 1) (by omega) (by omega) dL_law_371 ?_
  rw [ex1]
  have h2 := m_type (Q := fun r m' => r = (typeS W x1).r ∧ MoC m' (typeS W x1).W) hm hI (x := x1) (fun m' hm' => ⟨rfl, hm'⟩)
  refine L_Vm C.2.1 C.2.2.2.2.2.2.1 C.2.2.2.2.2.2.2 (ct_X10_type rfl g1 h2) vk_X10_type vm_X10_type vi_X10_type vs_X10_type rfl (clE_k _ τ kc279) ⟨rfl, rfl⟩ (by decide) ⟨by show c0 ≤ 600000; omega, by show s0 ≤ 7302250; omega⟩ (As := [.int (jI x1)]) (rest := [.int (jI r1)]) rfl rfl (Nat.le_of_ble_eq_true rfl) dL_law_372 (L_kIm (fun r2 τ1 gr2 hr2 _ => ?_))
  obtain ⟨hr2, hm1⟩ := hr2
  refine L_icmp_eq C.1 gr1 gr2 (tgt := 786) dL_law_375 (by decide) (fun _ => ?_) (fun z => absurd (hr1.trans hr2.symm) z)
  exact LJ.widen (by omega) (by omega) (next _ _ _ hW1 hm1 (inv_type hI x1))
set_option maxHeartbeats 4000000 in
theorem lo_clear {F : FT} {E : ET} {b L : Nat} {vx : Nat → Int32} {Q : State → Prop} {c0 s0 : Nat} {σ τ : Sg} {W : Wd} {i : Nat} (C : LC F E b L vx) (hi : i + 3 < L) (hc : c0 + 2 ≤ 600000 ∧ s0 + 42 ≤ 7302250) (hW : ClC σ W) (hm : MoC τ W) (hI : InvW W) (next : ∀ σ' τ' W', ClC σ' W' → MoC τ' W' → InvW W' → LJ F E Q (c0 + 2) (s0 + 42) σ' τ' 786 [(3, .int (jI (i : Int))), (0, .ref b), (1, .ref (adE E 0)), (2, .ref (adE E 279))] []) : LJ F E Q c0 s0 σ τ 380 [(3, .int (jI (i : Int))), (0, .ref b), (1, .ref (adE E 0)), (2, .ref (adE E 279))] [] := by
  refine L_aload_n C.1 dL_law_380 rfl 2 rfl ?_
  have h1 := c_clear (Q := fun r c' => r = (clearS W).r ∧ ClC c' (clearS W).W) hW hI (fun c' hc' => ⟨rfl, hc'⟩)
  refine L_Vc C.1 C.2.2.2.2.2.2.1 C.2.2.2.2.2.2.2 (ct_X9_clear C.2.2.2.2.2.2.1 h1) vk_X9_clear vm_X9_clear vi_X9_clear vs_X9_clear rfl (clE_k E σ kc0) ⟨rfl, rfl⟩ (by decide) ⟨by show c0 ≤ 600000; omega, by show s0 ≤ 7302250; omega⟩ (fun _ _ z => qI_n z) (As := []) (rest := []) rfl rfl (Nat.le_of_ble_eq_true rfl) dL_law_381 (L_kI (fun r1 σ1 gr1 hr1 _ => ?_))
  obtain ⟨hr1, hW1⟩ := hr1
  refine L_aload_n C.1 dL_law_384 rfl 3 rfl ?_
  have h2 := m_clear (Q := fun r m' => r = (clearS W).r ∧ MoC m' (clearS W).W) hm (fun m' hm' => ⟨rfl, hm'⟩)
  refine L_Vm C.2.1 C.2.2.2.2.2.2.1 C.2.2.2.2.2.2.2 (ct_X10_clear rfl h2) vk_X10_clear vm_X10_clear vi_X10_clear vs_X10_clear rfl (clE_k _ τ kc279) ⟨rfl, rfl⟩ (by decide) ⟨by show c0 ≤ 600000; omega, by show s0 ≤ 7302250; omega⟩ (As := []) (rest := [.int (jI r1)]) rfl rfl (Nat.le_of_ble_eq_true rfl) dL_law_385 (L_kIm (fun r2 τ1 gr2 hr2 _ => ?_))
  obtain ⟨hr2, hm1⟩ := hr2
  refine L_icmp_eq C.1 gr1 gr2 (tgt := 786) dL_law_388 (by decide) (fun _ => ?_) (fun z => absurd (hr1.trans hr2.symm) z)
  exact LJ.widen (by omega) (by omega) (next _ _ _ hW1 hm1 (inv_clear hI))
set_option maxHeartbeats 4000000 in
theorem lo_add {F : FT} {E : ET} {b L : Nat} {vx : Nat → Int32} {Q : State → Prop} {c0 s0 : Nat} {σ τ : Sg} {W : Wd} {i : Nat} (C : LC F E b L vx) (hi : i + 3 < L) (hc : c0 + 2 ≤ 600000 ∧ s0 + 42 ≤ 7302250) (hW : ClC σ W) (hm : MoC τ W) (hI : InvW W) (next : ∀ σ' τ' W', ClC σ' W' → MoC τ' W' → InvW W' → LJ F E Q (c0 + 2) (s0 + 42) σ' τ' 786 [(3, .int (jI (i : Int))), (0, .ref b), (1, .ref (adE E 0)), (2, .ref (adE E 279))] []) : LJ F E Q c0 s0 σ τ 393 [(3, .int (jI (i : Int))), (0, .ref b), (1, .ref (adE E 0)), (2, .ref (adE E 279))] [] := by
  have g1 : rgI (vx (i + 1)).toInt := rgI_of _
  generalize ex1 : (vx (i + 1)).toInt = x1 at g1
  have g2 : rgI (vx (i + 2)).toInt := rgI_of _
  generalize ex2 : (vx (i + 2)).toInt = x2 at g2
  have g3 : rgI (vx (i + 3)).toInt := rgI_of _
  generalize ex3 : (vx (i + 3)).toInt = x3 at g3
  by_cases ha : alA W x1 x2 x3
  · have hw := c_addA (J := wj_X9_add_64 x1 x2 x3 σ (fun r c' => r = (addS W x1 x2 x3).r ∧ ClC c' (addS W x1 x2 x3).W)) (R := fun _ => False) hW hI (b := x1) (e := x2) (sp := x3) (fun r _ z => z ha) (fun ha => c_add64 hW hI ha (fun c' hc' => ⟨rfl, hc'⟩))
    refine L_aload_n C.1 dL_law_393 rfl 2 rfl ?_
    refine L_aload_n C.1 dL_law_394 rfl 1 rfl ?_
    refine L_iload_n C.1 dL_law_395 rfl 0 rfl ?_
    refine L_iconst C.1 dL_law_396 ?_
    refine L_iadd C.1 dL_law_397 ?_
    refine L_sld C (j := i + 1) (by omega) (by omega) dL_law_398 ?_
    rw [ex1]
    refine L_aload_n C.1 dL_law_399 rfl 1 rfl ?_
    refine L_iload_n C.1 dL_law_400 rfl 0 rfl ?_
    refine L_iconst C.1 dL_law_401 ?_
    refine L_iadd C.1 dL_law_402 ?_
    refine L_sld C (j := i + 2) (by omega) (by omega) dL_law_403 ?_
    rw [ex2]
    refine L_aload_n C.1 dL_law_404 rfl 1 rfl ?_
    refine L_iload_n C.1 dL_law_405 rfl 0 rfl ?_
    refine L_iconst C.1 dL_law_406 ?_
    refine L_iadd C.1 dL_law_407 ?_
    refine L_sld C (j := i + 3) (by omega) (by omega) dL_law_408 ?_
    rw [ex3]
    refine L_add C.1 C.2.2.2.2.2.2.1 C.2.2.2.2.2.2.2 (ct_X9_add C.2.2.2.2.2.2.1 g1 g2 g3 hw) (LC.ad C) vk_X9_add vm_X9_add vi_X9_add vs_X9_add hc (rest := []) (Nat.le_of_ble_eq_true rfl) dL_law_409 (fun r1 σ1 gr1 hr1 => ?_)
    obtain ⟨hr1, hW1⟩ := hr1
    refine L_aload_n C.1 dL_law_412 rfl 3 rfl ?_
    refine L_aload_n C.1 dL_law_413 rfl 1 rfl ?_
    refine L_iload_n C.1 dL_law_414 rfl 0 rfl ?_
    refine L_iconst C.1 dL_law_415 ?_
    refine L_iadd C.1 dL_law_416 ?_
    refine L_sld C (j := i + 1) (by omega) (by omega) dL_law_417 ?_
    rw [ex1]
    refine L_aload_n C.1 dL_law_418 rfl 1 rfl ?_
    refine L_iload_n C.1 dL_law_419 rfl 0 rfl ?_
    refine L_iconst C.1 dL_law_420 ?_
    refine L_iadd C.1 dL_law_421 ?_
    refine L_sld C (j := i + 2) (by omega) (by omega) dL_law_422 ?_
    rw [ex2]
    refine L_aload_n C.1 dL_law_423 rfl 1 rfl ?_
    refine L_iload_n C.1 dL_law_424 rfl 0 rfl ?_
    refine L_iconst C.1 dL_law_425 ?_
    refine L_iadd C.1 dL_law_426 ?_
    refine L_sld C (j := i + 3) (by omega) (by omega) dL_law_427 ?_
    rw [ex3]
    have hx := m_add (Q := fun r m' => r = (addS W x1 x2 x3).r ∧ MoC m' (addS W x1 x2 x3).W) hm hI (b := x1) (e := x2) (sp := x3) (fun m' hm' => ⟨rfl, hm'⟩)
    refine L_Vm C.2.1 C.2.2.2.2.2.2.1 C.2.2.2.2.2.2.2 (ct_X10_add rfl g1 g2 g3 hx) vk_X10_add vm_X10_add vi_X10_add vs_X10_add rfl (clE_k _ τ kc279) ⟨rfl, rfl⟩ (by decide) ⟨by show c0 + 2 ≤ 600000; omega, by show s0 + 42 ≤ 7302250; omega⟩ (As := [.int (jI x1), .int (jI x2), .int (jI x3)]) (rest := [.int (jI r1)]) rfl rfl (Nat.le_of_ble_eq_true rfl) dL_law_428 (L_kIm (fun r2 τ1 gr2 hr2 _ => ?_))
    obtain ⟨hr2, hm1⟩ := hr2
    refine L_icmp_eq C.1 gr1 gr2 (tgt := 786) dL_law_431 (by decide) (fun _ => ?_) (fun z => absurd (hr1.trans hr2.symm) z)
    exact next _ _ _ hW1 hm1 (inv_add hI x1 x2 x3)
  · have hw := c_addA (J := False) (R := fun r => r = (addS W x1 x2 x3).r) hW hI (b := x1) (e := x2) (sp := x3) (fun r hr _ => by rw [hr]; rfl) (fun z => ha z)
    refine L_aload_n C.1 dL_law_393 rfl 2 rfl ?_
    refine L_aload_n C.1 dL_law_394 rfl 1 rfl ?_
    refine L_iload_n C.1 dL_law_395 rfl 0 rfl ?_
    refine L_iconst C.1 dL_law_396 ?_
    refine L_iadd C.1 dL_law_397 ?_
    refine L_sld C (j := i + 1) (by omega) (by omega) dL_law_398 ?_
    rw [ex1]
    refine L_aload_n C.1 dL_law_399 rfl 1 rfl ?_
    refine L_iload_n C.1 dL_law_400 rfl 0 rfl ?_
    refine L_iconst C.1 dL_law_401 ?_
    refine L_iadd C.1 dL_law_402 ?_
    refine L_sld C (j := i + 2) (by omega) (by omega) dL_law_403 ?_
    rw [ex2]
    refine L_aload_n C.1 dL_law_404 rfl 1 rfl ?_
    refine L_iload_n C.1 dL_law_405 rfl 0 rfl ?_
    refine L_iconst C.1 dL_law_406 ?_
    refine L_iadd C.1 dL_law_407 ?_
    refine L_sld C (j := i + 3) (by omega) (by omega) dL_law_408 ?_
    rw [ex3]
    refine L_Vc C.1 C.2.2.2.2.2.2.1 C.2.2.2.2.2.2.2 (ct_X9_add0 C.2.2.2.2.2.2.1 g1 g2 g3 hw) vk_X9_add vm_X9_add vi_X9_add vs_X9_add rfl (clE_k E σ kc0) ⟨rfl, rfl⟩ (by decide) ⟨by show c0 ≤ 600000; omega, by show s0 ≤ 7302250; omega⟩ (fun _ _ z => qI_n z) (As := [.int (jI x1), .int (jI x2), .int (jI x3)]) (rest := []) rfl rfl (Nat.le_of_ble_eq_true rfl) dL_law_409 (L_pI (fun r1 gr1 hr1 => ?_))
    have hW1 : ClC σ (addS W x1 x2 x3).W := by rw [addS_no ha]; exact hW
    refine L_aload_n C.1 dL_law_412 rfl 3 rfl ?_
    refine L_aload_n C.1 dL_law_413 rfl 1 rfl ?_
    refine L_iload_n C.1 dL_law_414 rfl 0 rfl ?_
    refine L_iconst C.1 dL_law_415 ?_
    refine L_iadd C.1 dL_law_416 ?_
    refine L_sld C (j := i + 1) (by omega) (by omega) dL_law_417 ?_
    rw [ex1]
    refine L_aload_n C.1 dL_law_418 rfl 1 rfl ?_
    refine L_iload_n C.1 dL_law_419 rfl 0 rfl ?_
    refine L_iconst C.1 dL_law_420 ?_
    refine L_iadd C.1 dL_law_421 ?_
    refine L_sld C (j := i + 2) (by omega) (by omega) dL_law_422 ?_
    rw [ex2]
    refine L_aload_n C.1 dL_law_423 rfl 1 rfl ?_
    refine L_iload_n C.1 dL_law_424 rfl 0 rfl ?_
    refine L_iconst C.1 dL_law_425 ?_
    refine L_iadd C.1 dL_law_426 ?_
    refine L_sld C (j := i + 3) (by omega) (by omega) dL_law_427 ?_
    rw [ex3]
    have hx := m_add (Q := fun r m' => r = (addS W x1 x2 x3).r ∧ MoC m' (addS W x1 x2 x3).W) hm hI (b := x1) (e := x2) (sp := x3) (fun m' hm' => ⟨rfl, hm'⟩)
    refine L_Vm C.2.1 C.2.2.2.2.2.2.1 C.2.2.2.2.2.2.2 (ct_X10_add rfl g1 g2 g3 hx) vk_X10_add vm_X10_add vi_X10_add vs_X10_add rfl (clE_k _ τ kc279) ⟨rfl, rfl⟩ (by decide) ⟨by show c0 ≤ 600000; omega, by show s0 ≤ 7302250; omega⟩ (As := [.int (jI x1), .int (jI x2), .int (jI x3)]) (rest := [.int (jI r1)]) rfl rfl (Nat.le_of_ble_eq_true rfl) dL_law_428 (L_kIm (fun r2 τ1 gr2 hr2 _ => ?_))
    obtain ⟨hr2, hm1⟩ := hr2
    refine L_icmp_eq C.1 gr1 gr2 (tgt := 786) dL_law_431 (by decide) (fun _ => ?_) (fun z => absurd (hr1.trans hr2.symm) z)
    exact LJ.widen (by omega) (by omega) (next _ _ _ hW1 hm1 (inv_add hI x1 x2 x3))
set_option maxHeartbeats 4000000 in
theorem lo_drop {F : FT} {E : ET} {b L : Nat} {vx : Nat → Int32} {Q : State → Prop} {c0 s0 : Nat} {σ τ : Sg} {W : Wd} {i : Nat} (C : LC F E b L vx) (hi : i + 3 < L) (hc : c0 + 2 ≤ 600000 ∧ s0 + 42 ≤ 7302250) (hW : ClC σ W) (hm : MoC τ W) (hI : InvW W) (next : ∀ σ' τ' W', ClC σ' W' → MoC τ' W' → InvW W' → LJ F E Q (c0 + 2) (s0 + 42) σ' τ' 786 [(3, .int (jI (i : Int))), (0, .ref b), (1, .ref (adE E 0)), (2, .ref (adE E 279))] []) : LJ F E Q c0 s0 σ τ 436 [(3, .int (jI (i : Int))), (0, .ref b), (1, .ref (adE E 0)), (2, .ref (adE E 279))] [] := by
  have g1 : rgI (vx (i + 1)).toInt := rgI_of _
  generalize ex1 : (vx (i + 1)).toInt = x1 at g1
  refine L_aload_n C.1 dL_law_436 rfl 2 rfl ?_
  refine L_aload_n C.1 dL_law_437 rfl 1 rfl ?_
  refine L_iload_n C.1 dL_law_438 rfl 0 rfl ?_
  refine L_iconst C.1 dL_law_439 ?_
  refine L_iadd C.1 dL_law_440 ?_
  refine L_sld C (j := i + 1) (by omega) (by omega) dL_law_441 ?_
  rw [ex1]
  have h1 := c_drop (Q := fun r c' => r = (dropS W x1).r ∧ ClC c' (dropS W x1).W) hW hI (i := x1) (fun c' hc' => ⟨rfl, hc'⟩)
  refine L_Vc C.1 C.2.2.2.2.2.2.1 C.2.2.2.2.2.2.2 (ct_X9_drop C.2.2.2.2.2.2.1 g1 h1) vk_X9_drop vm_X9_drop vi_X9_drop vs_X9_drop rfl (clE_k E σ kc0) ⟨rfl, rfl⟩ (by decide) ⟨by show c0 ≤ 600000; omega, by show s0 ≤ 7302250; omega⟩ (fun _ _ z => qI_n z) (As := [.int (jI x1)]) (rest := []) rfl rfl (Nat.le_of_ble_eq_true rfl) dL_law_442 (L_kI (fun r1 σ1 gr1 hr1 _ => ?_))
  obtain ⟨hr1, hW1⟩ := hr1
  refine L_aload_n C.1 dL_law_445 rfl 3 rfl ?_
  refine L_aload_n C.1 dL_law_446 rfl 1 rfl ?_
  refine L_iload_n C.1 dL_law_447 rfl 0 rfl ?_
  refine L_iconst C.1 dL_law_448 ?_
  refine L_iadd C.1 dL_law_449 ?_
  refine L_sld C (j := i + 1) (by omega) (by omega) dL_law_450 ?_
  rw [ex1]
  have h2 := m_drop (Q := fun r m' => r = (dropS W x1).r ∧ MoC m' (dropS W x1).W) hm hI (i := x1) (fun m' hm' => ⟨rfl, hm'⟩)
  refine L_Vm C.2.1 C.2.2.2.2.2.2.1 C.2.2.2.2.2.2.2 (ct_X10_drop rfl g1 h2) vk_X10_drop vm_X10_drop vi_X10_drop vs_X10_drop rfl (clE_k _ τ kc279) ⟨rfl, rfl⟩ (by decide) ⟨by show c0 ≤ 600000; omega, by show s0 ≤ 7302250; omega⟩ (As := [.int (jI x1)]) (rest := [.int (jI r1)]) rfl rfl (Nat.le_of_ble_eq_true rfl) dL_law_451 (L_kIm (fun r2 τ1 gr2 hr2 _ => ?_))
  obtain ⟨hr2, hm1⟩ := hr2
  refine L_icmp_eq C.1 gr1 gr2 (tgt := 786) dL_law_454 (by decide) (fun _ => ?_) (fun z => absurd (hr1.trans hr2.symm) z)
  exact LJ.widen (by omega) (by omega) (next _ _ _ hW1 hm1 (inv_drop hI x1))
set_option maxHeartbeats 4000000 in
theorem lo_move {F : FT} {E : ET} {b L : Nat} {vx : Nat → Int32} {Q : State → Prop} {c0 s0 : Nat} {σ τ : Sg} {W : Wd} {i : Nat} (C : LC F E b L vx) (hi : i + 3 < L) (hc : c0 + 2 ≤ 600000 ∧ s0 + 42 ≤ 7302250) (hW : ClC σ W) (hm : MoC τ W) (hI : InvW W) (next : ∀ σ' τ' W', ClC σ' W' → MoC τ' W' → InvW W' → LJ F E Q (c0 + 2) (s0 + 42) σ' τ' 786 [(3, .int (jI (i : Int))), (0, .ref b), (1, .ref (adE E 0)), (2, .ref (adE E 279))] []) : LJ F E Q c0 s0 σ τ 459 [(3, .int (jI (i : Int))), (0, .ref b), (1, .ref (adE E 0)), (2, .ref (adE E 279))] [] := by
  have g1 : rgI (vx (i + 1)).toInt := rgI_of _
  generalize ex1 : (vx (i + 1)).toInt = x1 at g1
  have g2 : rgI (vx (i + 2)).toInt := rgI_of _
  generalize ex2 : (vx (i + 2)).toInt = x2 at g2
  have g3 : rgI (vx (i + 3)).toInt := rgI_of _
  generalize ex3 : (vx (i + 3)).toInt = x3 at g3
  refine L_aload_n C.1 dL_law_459 rfl 2 rfl ?_
  refine L_aload_n C.1 dL_law_460 rfl 1 rfl ?_
  refine L_iload_n C.1 dL_law_461 rfl 0 rfl ?_
  refine L_iconst C.1 dL_law_462 ?_
  refine L_iadd C.1 dL_law_463 ?_
  refine L_sld C (j := i + 1) (by omega) (by omega) dL_law_464 ?_
  rw [ex1]
  refine L_aload_n C.1 dL_law_465 rfl 1 rfl ?_
  refine L_iload_n C.1 dL_law_466 rfl 0 rfl ?_
  refine L_iconst C.1 dL_law_467 ?_
  refine L_iadd C.1 dL_law_468 ?_
  refine L_sld C (j := i + 2) (by omega) (by omega) dL_law_469 ?_
  rw [ex2]
  refine L_aload_n C.1 dL_law_470 rfl 1 rfl ?_
  refine L_iload_n C.1 dL_law_471 rfl 0 rfl ?_
  refine L_iconst C.1 dL_law_472 ?_
  refine L_iadd C.1 dL_law_473 ?_
  refine L_sld C (j := i + 3) (by omega) (by omega) dL_law_474 ?_
  rw [ex3]
  have h1 := c_move (Q := fun r c' => r = (moveS W x1 x2 x3).r ∧ ClC c' (moveS W x1 x2 x3).W) hW hI (i := x1) (b := x2) (e := x3) (fun c' hc' => ⟨rfl, hc'⟩)
  refine L_Vc C.1 C.2.2.2.2.2.2.1 C.2.2.2.2.2.2.2 (ct_X9_move C.2.2.2.2.2.2.1 g1 g2 g3 h1) vk_X9_move vm_X9_move vi_X9_move vs_X9_move rfl (clE_k E σ kc0) ⟨rfl, rfl⟩ (by decide) ⟨by show c0 ≤ 600000; omega, by show s0 ≤ 7302250; omega⟩ (fun _ _ z => qI_n z) (As := [.int (jI x1), .int (jI x2), .int (jI x3)]) (rest := []) rfl rfl (Nat.le_of_ble_eq_true rfl) dL_law_475 (L_kI (fun r1 σ1 gr1 hr1 _ => ?_))
  obtain ⟨hr1, hW1⟩ := hr1
  refine L_aload_n C.1 dL_law_478 rfl 3 rfl ?_
  refine L_aload_n C.1 dL_law_479 rfl 1 rfl ?_
  refine L_iload_n C.1 dL_law_480 rfl 0 rfl ?_
  refine L_iconst C.1 dL_law_481 ?_
  refine L_iadd C.1 dL_law_482 ?_
  refine L_sld C (j := i + 1) (by omega) (by omega) dL_law_483 ?_
  rw [ex1]
  refine L_aload_n C.1 dL_law_484 rfl 1 rfl ?_
  refine L_iload_n C.1 dL_law_485 rfl 0 rfl ?_
  refine L_iconst C.1 dL_law_486 ?_
  refine L_iadd C.1 dL_law_487 ?_
  refine L_sld C (j := i + 2) (by omega) (by omega) dL_law_488 ?_
  rw [ex2]
  refine L_aload_n C.1 dL_law_489 rfl 1 rfl ?_
  refine L_iload_n C.1 dL_law_490 rfl 0 rfl ?_
  refine L_iconst C.1 dL_law_491 ?_
  refine L_iadd C.1 dL_law_492 ?_
  refine L_sld C (j := i + 3) (by omega) (by omega) dL_law_493 ?_
  rw [ex3]
  have h2 := m_move (Q := fun r m' => r = (moveS W x1 x2 x3).r ∧ MoC m' (moveS W x1 x2 x3).W) hm hI (i := x1) (b := x2) (e := x3) (fun m' hm' => ⟨rfl, hm'⟩)
  refine L_Vm C.2.1 C.2.2.2.2.2.2.1 C.2.2.2.2.2.2.2 (ct_X10_move rfl g1 g2 g3 h2) vk_X10_move vm_X10_move vi_X10_move vs_X10_move rfl (clE_k _ τ kc279) ⟨rfl, rfl⟩ (by decide) ⟨by show c0 ≤ 600000; omega, by show s0 ≤ 7302250; omega⟩ (As := [.int (jI x1), .int (jI x2), .int (jI x3)]) (rest := [.int (jI r1)]) rfl rfl (Nat.le_of_ble_eq_true rfl) dL_law_494 (L_kIm (fun r2 τ1 gr2 hr2 _ => ?_))
  obtain ⟨hr2, hm1⟩ := hr2
  refine L_icmp_eq C.1 gr1 gr2 (tgt := 786) dL_law_497 (by decide) (fun _ => ?_) (fun z => absurd (hr1.trans hr2.symm) z)
  exact LJ.widen (by omega) (by omega) (next _ _ _ hW1 hm1 (inv_move hI x1 x2 x3))
set_option maxHeartbeats 4000000 in
theorem lo_subtitle {F : FT} {E : ET} {b L : Nat} {vx : Nat → Int32} {Q : State → Prop} {c0 s0 : Nat} {σ τ : Sg} {W : Wd} {i : Nat} (C : LC F E b L vx) (hi : i + 3 < L) (hc : c0 + 2 ≤ 600000 ∧ s0 + 42 ≤ 7302250) (hW : ClC σ W) (hm : MoC τ W) (hI : InvW W) (next : ∀ σ' τ' W', ClC σ' W' → MoC τ' W' → InvW W' → LJ F E Q (c0 + 2) (s0 + 42) σ' τ' 786 [(3, .int (jI (i : Int))), (0, .ref b), (1, .ref (adE E 0)), (2, .ref (adE E 279))] []) : LJ F E Q c0 s0 σ τ 502 [(3, .int (jI (i : Int))), (0, .ref b), (1, .ref (adE E 0)), (2, .ref (adE E 279))] [] := by
  have g1 : rgI (vx (i + 1)).toInt := rgI_of _
  generalize ex1 : (vx (i + 1)).toInt = x1 at g1
  have g2 : rgI (vx (i + 2)).toInt := rgI_of _
  generalize ex2 : (vx (i + 2)).toInt = x2 at g2
  refine L_aload_n C.1 dL_law_502 rfl 2 rfl ?_
  refine L_aload_n C.1 dL_law_503 rfl 1 rfl ?_
  refine L_iload_n C.1 dL_law_504 rfl 0 rfl ?_
  refine L_iconst C.1 dL_law_505 ?_
  refine L_iadd C.1 dL_law_506 ?_
  refine L_sld C (j := i + 1) (by omega) (by omega) dL_law_507 ?_
  rw [ex1]
  refine L_aload_n C.1 dL_law_508 rfl 1 rfl ?_
  refine L_iload_n C.1 dL_law_509 rfl 0 rfl ?_
  refine L_iconst C.1 dL_law_510 ?_
  refine L_iadd C.1 dL_law_511 ?_
  refine L_sld C (j := i + 2) (by omega) (by omega) dL_law_512 ?_
  rw [ex2]
  have h1 := c_subtitle (Q := fun r => r = subQ W.A x1 x2) hW hI (i := x1) (x := x2) rfl
  refine L_Vc C.1 C.2.2.2.2.2.2.1 C.2.2.2.2.2.2.2 (ct_X9_subtitle C.2.2.2.2.2.2.1 g1 g2 h1) vk_X9_subtitle vm_X9_subtitle vi_X9_subtitle vs_X9_subtitle rfl (clE_k E σ kc0) ⟨rfl, rfl⟩ (by decide) ⟨by show c0 ≤ 600000; omega, by show s0 ≤ 7302250; omega⟩ (fun _ _ z => qI_n z) (As := [.int (jI x1), .int (jI x2)]) (rest := []) rfl rfl (Nat.le_of_ble_eq_true rfl) dL_law_513 (L_pI (fun r1 gr1 hr1 => ?_))
  have hW1 := hW
  refine L_aload_n C.1 dL_law_516 rfl 3 rfl ?_
  refine L_aload_n C.1 dL_law_517 rfl 1 rfl ?_
  refine L_iload_n C.1 dL_law_518 rfl 0 rfl ?_
  refine L_iconst C.1 dL_law_519 ?_
  refine L_iadd C.1 dL_law_520 ?_
  refine L_sld C (j := i + 1) (by omega) (by omega) dL_law_521 ?_
  rw [ex1]
  refine L_aload_n C.1 dL_law_522 rfl 1 rfl ?_
  refine L_iload_n C.1 dL_law_523 rfl 0 rfl ?_
  refine L_iconst C.1 dL_law_524 ?_
  refine L_iadd C.1 dL_law_525 ?_
  refine L_sld C (j := i + 2) (by omega) (by omega) dL_law_526 ?_
  rw [ex2]
  have h2 := m_subtitle (Q := fun r m' => r = subQ W.A x1 x2 ∧ MoC m' W) hm hI (i := x1) (x := x2) (fun m' hm' => ⟨rfl, hm'⟩)
  refine L_Vm C.2.1 C.2.2.2.2.2.2.1 C.2.2.2.2.2.2.2 (ct_X10_subtitle rfl g1 g2 h2) vk_X10_subtitle vm_X10_subtitle vi_X10_subtitle vs_X10_subtitle rfl (clE_k _ τ kc279) ⟨rfl, rfl⟩ (by decide) ⟨by show c0 ≤ 600000; omega, by show s0 ≤ 7302250; omega⟩ (As := [.int (jI x1), .int (jI x2)]) (rest := [.int (jI r1)]) rfl rfl (Nat.le_of_ble_eq_true rfl) dL_law_527 (L_kIm (fun r2 τ1 gr2 hr2 _ => ?_))
  obtain ⟨hr2, hm1⟩ := hr2
  refine L_icmp_eq C.1 gr1 gr2 (tgt := 786) dL_law_530 (by decide) (fun _ => ?_) (fun z => absurd (hr1.trans hr2.symm) z)
  exact LJ.widen (by omega) (by omega) (next _ _ _ hW1 hm1 (hI))
set_option maxHeartbeats 4000000 in
theorem lo_part {F : FT} {E : ET} {b L : Nat} {vx : Nat → Int32} {Q : State → Prop} {c0 s0 : Nat} {σ τ : Sg} {W : Wd} {i : Nat} (C : LC F E b L vx) (hi : i + 3 < L) (hc : c0 + 2 ≤ 600000 ∧ s0 + 42 ≤ 7302250) (hW : ClC σ W) (hm : MoC τ W) (hI : InvW W) (next : ∀ σ' τ' W', ClC σ' W' → MoC τ' W' → InvW W' → LJ F E Q (c0 + 2) (s0 + 42) σ' τ' 786 [(3, .int (jI (i : Int))), (0, .ref b), (1, .ref (adE E 0)), (2, .ref (adE E 279))] []) : LJ F E Q c0 s0 σ τ 535 [(3, .int (jI (i : Int))), (0, .ref b), (1, .ref (adE E 0)), (2, .ref (adE E 279))] [] := by
  have g1 : rgI (vx (i + 1)).toInt := rgI_of _
  generalize ex1 : (vx (i + 1)).toInt = x1 at g1
  have g2 : rgI (vx (i + 2)).toInt := rgI_of _
  generalize ex2 : (vx (i + 2)).toInt = x2 at g2
  have g3 : rgI (vx (i + 3)).toInt := rgI_of _
  generalize ex3 : (vx (i + 3)).toInt = x3 at g3
  refine L_aload_n C.1 dL_law_535 rfl 2 rfl ?_
  refine L_aload_n C.1 dL_law_536 rfl 1 rfl ?_
  refine L_iload_n C.1 dL_law_537 rfl 0 rfl ?_
  refine L_iconst C.1 dL_law_538 ?_
  refine L_iadd C.1 dL_law_539 ?_
  refine L_sld C (j := i + 1) (by omega) (by omega) dL_law_540 ?_
  rw [ex1]
  refine L_aload_n C.1 dL_law_541 rfl 1 rfl ?_
  refine L_iload_n C.1 dL_law_542 rfl 0 rfl ?_
  refine L_iconst C.1 dL_law_543 ?_
  refine L_iadd C.1 dL_law_544 ?_
  refine L_sld C (j := i + 2) (by omega) (by omega) dL_law_545 ?_
  rw [ex2]
  refine L_aload_n C.1 dL_law_546 rfl 1 rfl ?_
  refine L_iload_n C.1 dL_law_547 rfl 0 rfl ?_
  refine L_iconst C.1 dL_law_548 ?_
  refine L_iadd C.1 dL_law_549 ?_
  refine L_sld C (j := i + 3) (by omega) (by omega) dL_law_550 ?_
  rw [ex3]
  have h1 := c_part (Q := fun r => r = partQ W.A x1 x2 x3) hW hI (i := x1) (p := x2) (x := x3) g3.2 rfl
  refine L_Vc C.1 C.2.2.2.2.2.2.1 C.2.2.2.2.2.2.2 (ct_X9_part C.2.2.2.2.2.2.1 g1 g2 g3 h1) vk_X9_part vm_X9_part vi_X9_part vs_X9_part rfl (clE_k E σ kc0) ⟨rfl, rfl⟩ (by decide) ⟨by show c0 ≤ 600000; omega, by show s0 ≤ 7302250; omega⟩ (fun _ _ z => qI_n z) (As := [.int (jI x1), .int (jI x2), .int (jI x3)]) (rest := []) rfl rfl (Nat.le_of_ble_eq_true rfl) dL_law_551 (L_pI (fun r1 gr1 hr1 => ?_))
  have hW1 := hW
  refine L_aload_n C.1 dL_law_554 rfl 3 rfl ?_
  refine L_aload_n C.1 dL_law_555 rfl 1 rfl ?_
  refine L_iload_n C.1 dL_law_556 rfl 0 rfl ?_
  refine L_iconst C.1 dL_law_557 ?_
  refine L_iadd C.1 dL_law_558 ?_
  refine L_sld C (j := i + 1) (by omega) (by omega) dL_law_559 ?_
  rw [ex1]
  refine L_aload_n C.1 dL_law_560 rfl 1 rfl ?_
  refine L_iload_n C.1 dL_law_561 rfl 0 rfl ?_
  refine L_iconst C.1 dL_law_562 ?_
  refine L_iadd C.1 dL_law_563 ?_
  refine L_sld C (j := i + 2) (by omega) (by omega) dL_law_564 ?_
  rw [ex2]
  refine L_aload_n C.1 dL_law_565 rfl 1 rfl ?_
  refine L_iload_n C.1 dL_law_566 rfl 0 rfl ?_
  refine L_iconst C.1 dL_law_567 ?_
  refine L_iadd C.1 dL_law_568 ?_
  refine L_sld C (j := i + 3) (by omega) (by omega) dL_law_569 ?_
  rw [ex3]
  have h2 := m_part (Q := fun r => r = partQ W.A x1 x2 x3) hm hI (i := x1) (p := x2) (x := x3) g3.2 rfl
  refine L_Vm C.2.1 C.2.2.2.2.2.2.1 C.2.2.2.2.2.2.2 (ct_X10_part rfl g1 g2 g3 h2) vk_X10_part vm_X10_part vi_X10_part vs_X10_part rfl (clE_k _ τ kc279) ⟨rfl, rfl⟩ (by decide) ⟨by show c0 ≤ 600000; omega, by show s0 ≤ 7302250; omega⟩ (As := [.int (jI x1), .int (jI x2), .int (jI x3)]) (rest := [.int (jI r1)]) rfl rfl (Nat.le_of_ble_eq_true rfl) dL_law_570 (L_pIm (fun r2 gr2 hr2 => ?_))
  have hm1 := hm
  refine L_icmp_eq C.1 gr1 gr2 (tgt := 786) dL_law_573 (by decide) (fun _ => ?_) (fun z => absurd (hr1.trans hr2.symm) z)
  exact LJ.widen (by omega) (by omega) (next _ _ _ hW1 hm1 (hI))
set_option maxHeartbeats 4000000 in
theorem lo_set {F : FT} {E : ET} {b L : Nat} {vx : Nat → Int32} {Q : State → Prop} {c0 s0 : Nat} {σ τ : Sg} {W : Wd} {i : Nat} (C : LC F E b L vx) (hi : i + 3 < L) (hc : c0 + 2 ≤ 600000 ∧ s0 + 42 ≤ 7302250) (hW : ClC σ W) (hm : MoC τ W) (hI : InvW W) (next : ∀ σ' τ' W', ClC σ' W' → MoC τ' W' → InvW W' → LJ F E Q (c0 + 2) (s0 + 42) σ' τ' 786 [(3, .int (jI (i : Int))), (0, .ref b), (1, .ref (adE E 0)), (2, .ref (adE E 279))] []) : LJ F E Q c0 s0 σ τ 578 [(3, .int (jI (i : Int))), (0, .ref b), (1, .ref (adE E 0)), (2, .ref (adE E 279))] [] := by
  have g1 : rgI (vx (i + 1)).toInt := rgI_of _
  generalize ex1 : (vx (i + 1)).toInt = x1 at g1
  have g2 : rgI (vx (i + 2)).toInt := rgI_of _
  generalize ex2 : (vx (i + 2)).toInt = x2 at g2
  refine L_aload_n C.1 dL_law_578 rfl 2 rfl ?_
  refine L_aload_n C.1 dL_law_579 rfl 1 rfl ?_
  refine L_iload_n C.1 dL_law_580 rfl 0 rfl ?_
  refine L_iconst C.1 dL_law_581 ?_
  refine L_iadd C.1 dL_law_582 ?_
  refine L_sld C (j := i + 1) (by omega) (by omega) dL_law_583 ?_
  rw [ex1]
  refine L_aload_n C.1 dL_law_584 rfl 1 rfl ?_
  refine L_iload_n C.1 dL_law_585 rfl 0 rfl ?_
  refine L_iconst C.1 dL_law_586 ?_
  refine L_iadd C.1 dL_law_587 ?_
  refine L_sld C (j := i + 2) (by omega) (by omega) dL_law_588 ?_
  rw [ex2]
  have h1 := c_set (Q := fun r c' => r = (setS W x1 x2).r ∧ ClC c' (setS W x1 x2).W) hW hI (k := x1) (x := x2) (fun c' hc' => ⟨rfl, hc'⟩)
  refine L_Vc C.1 C.2.2.2.2.2.2.1 C.2.2.2.2.2.2.2 (ct_X9_set C.2.2.2.2.2.2.1 g1 g2 h1) vk_X9_set vm_X9_set vi_X9_set vs_X9_set rfl (clE_k E σ kc0) ⟨rfl, rfl⟩ (by decide) ⟨by show c0 ≤ 600000; omega, by show s0 ≤ 7302250; omega⟩ (fun _ _ z => qI_n z) (As := [.int (jI x1), .int (jI x2)]) (rest := []) rfl rfl (Nat.le_of_ble_eq_true rfl) dL_law_589 (L_kI (fun r1 σ1 gr1 hr1 _ => ?_))
  obtain ⟨hr1, hW1⟩ := hr1
  refine L_aload_n C.1 dL_law_592 rfl 3 rfl ?_
  refine L_aload_n C.1 dL_law_593 rfl 1 rfl ?_
  refine L_iload_n C.1 dL_law_594 rfl 0 rfl ?_
  refine L_iconst C.1 dL_law_595 ?_
  refine L_iadd C.1 dL_law_596 ?_
  refine L_sld C (j := i + 1) (by omega) (by omega) dL_law_597 ?_
  rw [ex1]
  refine L_aload_n C.1 dL_law_598 rfl 1 rfl ?_
  refine L_iload_n C.1 dL_law_599 rfl 0 rfl ?_
  refine L_iconst C.1 dL_law_600 ?_
  refine L_iadd C.1 dL_law_601 ?_
  refine L_sld C (j := i + 2) (by omega) (by omega) dL_law_602 ?_
  rw [ex2]
  have h2 := m_set (Q := fun r m' => r = (setS W x1 x2).r ∧ MoC m' (setS W x1 x2).W) hm hI (k := x1) (x := x2) (fun m' hm' => ⟨rfl, hm'⟩)
  refine L_Vm C.2.1 C.2.2.2.2.2.2.1 C.2.2.2.2.2.2.2 (ct_X10_set rfl g1 g2 h2) vk_X10_set vm_X10_set vi_X10_set vs_X10_set rfl (clE_k _ τ kc279) ⟨rfl, rfl⟩ (by decide) ⟨by show c0 ≤ 600000; omega, by show s0 ≤ 7302250; omega⟩ (As := [.int (jI x1), .int (jI x2)]) (rest := [.int (jI r1)]) rfl rfl (Nat.le_of_ble_eq_true rfl) dL_law_603 (L_kIm (fun r2 τ1 gr2 hr2 _ => ?_))
  obtain ⟨hr2, hm1⟩ := hr2
  refine L_icmp_eq C.1 gr1 gr2 (tgt := 786) dL_law_606 (by decide) (fun _ => ?_) (fun z => absurd (hr1.trans hr2.symm) z)
  exact LJ.widen (by omega) (by omega) (next _ _ _ hW1 hm1 (inv_set hI x1 x2))
set_option maxHeartbeats 4000000 in
theorem lo_conform {F : FT} {E : ET} {b L : Nat} {vx : Nat → Int32} {Q : State → Prop} {c0 s0 : Nat} {σ τ : Sg} {W : Wd} {i : Nat} (C : LC F E b L vx) (hi : i + 3 < L) (hc : c0 + 2 ≤ 600000 ∧ s0 + 42 ≤ 7302250) (hW : ClC σ W) (hm : MoC τ W) (hI : InvW W) (next : ∀ σ' τ' W', ClC σ' W' → MoC τ' W' → InvW W' → LJ F E Q (c0 + 2) (s0 + 42) σ' τ' 786 [(3, .int (jI (i : Int))), (0, .ref b), (1, .ref (adE E 0)), (2, .ref (adE E 279))] []) : LJ F E Q c0 s0 σ τ 611 [(3, .int (jI (i : Int))), (0, .ref b), (1, .ref (adE E 0)), (2, .ref (adE E 279))] [] := by
  have g1 : rgI (vx (i + 1)).toInt := rgI_of _
  generalize ex1 : (vx (i + 1)).toInt = x1 at g1
  refine L_aload_n C.1 dL_law_611 rfl 2 rfl ?_
  refine L_aload_n C.1 dL_law_612 rfl 1 rfl ?_
  refine L_iload_n C.1 dL_law_613 rfl 0 rfl ?_
  refine L_iconst C.1 dL_law_614 ?_
  refine L_iadd C.1 dL_law_615 ?_
  refine L_sld C (j := i + 1) (by omega) (by omega) dL_law_616 ?_
  rw [ex1]
  have h1 := c_conform (Q := fun r c' => r = (conformS W x1).r ∧ ClC c' (conformS W x1).W) hW hI (x := x1) (fun c' hc' => ⟨rfl, hc'⟩)
  refine L_Vc C.1 C.2.2.2.2.2.2.1 C.2.2.2.2.2.2.2 (ct_X9_conform C.2.2.2.2.2.2.1 g1 h1) vk_X9_conform vm_X9_conform vi_X9_conform vs_X9_conform rfl (clE_k E σ kc0) ⟨rfl, rfl⟩ (by decide) ⟨by show c0 ≤ 600000; omega, by show s0 ≤ 7302250; omega⟩ (fun _ _ z => qI_n z) (As := [.int (jI x1)]) (rest := []) rfl rfl (Nat.le_of_ble_eq_true rfl) dL_law_617 (L_kI (fun r1 σ1 gr1 hr1 _ => ?_))
  obtain ⟨hr1, hW1⟩ := hr1
  refine L_aload_n C.1 dL_law_620 rfl 3 rfl ?_
  refine L_aload_n C.1 dL_law_621 rfl 1 rfl ?_
  refine L_iload_n C.1 dL_law_622 rfl 0 rfl ?_
  refine L_iconst C.1 dL_law_623 ?_
  refine L_iadd C.1 dL_law_624 ?_
  refine L_sld C (j := i + 1) (by omega) (by omega) dL_law_625 ?_
  rw [ex1]
  have h2 := m_conform (Q := fun r m' => r = (conformS W x1).r ∧ MoC m' (conformS W x1).W) hm hI (x := x1) (fun m' hm' => ⟨rfl, hm'⟩)
  refine L_Vm C.2.1 C.2.2.2.2.2.2.1 C.2.2.2.2.2.2.2 (ct_X10_conform rfl g1 h2) vk_X10_conform vm_X10_conform vi_X10_conform vs_X10_conform rfl (clE_k _ τ kc279) ⟨rfl, rfl⟩ (by decide) ⟨by show c0 ≤ 600000; omega, by show s0 ≤ 7302250; omega⟩ (As := [.int (jI x1)]) (rest := [.int (jI r1)]) rfl rfl (Nat.le_of_ble_eq_true rfl) dL_law_626 (L_kIm (fun r2 τ1 gr2 hr2 _ => ?_))
  obtain ⟨hr2, hm1⟩ := hr2
  refine L_icmp_eq C.1 gr1 gr2 (tgt := 786) dL_law_629 (by decide) (fun _ => ?_) (fun z => absurd (hr1.trans hr2.symm) z)
  exact LJ.widen (by omega) (by omega) (next _ _ _ hW1 hm1 (inv_conform hI x1))
set_option maxHeartbeats 4000000 in
theorem lo_ifConform {F : FT} {E : ET} {b L : Nat} {vx : Nat → Int32} {Q : State → Prop} {c0 s0 : Nat} {σ τ : Sg} {W : Wd} {i : Nat} (C : LC F E b L vx) (hi : i + 3 < L) (hc : c0 + 2 ≤ 600000 ∧ s0 + 42 ≤ 7302250) (hW : ClC σ W) (hm : MoC τ W) (hI : InvW W) (next : ∀ σ' τ' W', ClC σ' W' → MoC τ' W' → InvW W' → LJ F E Q (c0 + 2) (s0 + 42) σ' τ' 786 [(3, .int (jI (i : Int))), (0, .ref b), (1, .ref (adE E 0)), (2, .ref (adE E 279))] []) : LJ F E Q c0 s0 σ τ 634 [(3, .int (jI (i : Int))), (0, .ref b), (1, .ref (adE E 0)), (2, .ref (adE E 279))] [] := by
  have g1 : rgI (vx (i + 1)).toInt := rgI_of _
  generalize ex1 : (vx (i + 1)).toInt = x1 at g1
  have g2 : rgI (vx (i + 2)).toInt := rgI_of _
  generalize ex2 : (vx (i + 2)).toInt = x2 at g2
  refine L_aload_n C.1 dL_law_634 rfl 2 rfl ?_
  refine L_aload_n C.1 dL_law_635 rfl 1 rfl ?_
  refine L_iload_n C.1 dL_law_636 rfl 0 rfl ?_
  refine L_iconst C.1 dL_law_637 ?_
  refine L_iadd C.1 dL_law_638 ?_
  refine L_sld C (j := i + 1) (by omega) (by omega) dL_law_639 ?_
  rw [ex1]
  refine L_aload_n C.1 dL_law_640 rfl 1 rfl ?_
  refine L_iload_n C.1 dL_law_641 rfl 0 rfl ?_
  refine L_iconst C.1 dL_law_642 ?_
  refine L_iadd C.1 dL_law_643 ?_
  refine L_sld C (j := i + 2) (by omega) (by omega) dL_law_644 ?_
  rw [ex2]
  have h1 := c_ifConform (Q := fun r c' => r = icQ W.A x1 x2 ∧ ClC c' W) hW hI (x := x1) (k := x2) (fun c' hc' => ⟨rfl, hc'⟩)
  refine L_Vc C.1 C.2.2.2.2.2.2.1 C.2.2.2.2.2.2.2 (ct_X9_ifConform C.2.2.2.2.2.2.1 g1 g2 h1) vk_X9_ifConform vm_X9_ifConform vi_X9_ifConform vs_X9_ifConform rfl (clE_k E σ kc0) ⟨rfl, rfl⟩ (by decide) ⟨by show c0 ≤ 600000; omega, by show s0 ≤ 7302250; omega⟩ (fun _ _ z => qI_n z) (As := [.int (jI x1), .int (jI x2)]) (rest := []) rfl rfl (Nat.le_of_ble_eq_true rfl) dL_law_645 (L_kI (fun r1 σ1 gr1 hr1 _ => ?_))
  obtain ⟨hr1, hW1⟩ := hr1
  refine L_aload_n C.1 dL_law_648 rfl 3 rfl ?_
  refine L_aload_n C.1 dL_law_649 rfl 1 rfl ?_
  refine L_iload_n C.1 dL_law_650 rfl 0 rfl ?_
  refine L_iconst C.1 dL_law_651 ?_
  refine L_iadd C.1 dL_law_652 ?_
  refine L_sld C (j := i + 1) (by omega) (by omega) dL_law_653 ?_
  rw [ex1]
  refine L_aload_n C.1 dL_law_654 rfl 1 rfl ?_
  refine L_iload_n C.1 dL_law_655 rfl 0 rfl ?_
  refine L_iconst C.1 dL_law_656 ?_
  refine L_iadd C.1 dL_law_657 ?_
  refine L_sld C (j := i + 2) (by omega) (by omega) dL_law_658 ?_
  rw [ex2]
  have h2 := m_ifConform (Q := fun r m' => r = icQ W.A x1 x2 ∧ MoC m' W) hm hI (x := x1) (kk := x2) (fun m' hm' => ⟨rfl, hm'⟩)
  refine L_Vm C.2.1 C.2.2.2.2.2.2.1 C.2.2.2.2.2.2.2 (ct_X10_ifConform rfl g1 g2 h2) vk_X10_ifConform vm_X10_ifConform vi_X10_ifConform vs_X10_ifConform rfl (clE_k _ τ kc279) ⟨rfl, rfl⟩ (by decide) ⟨by show c0 ≤ 600000; omega, by show s0 ≤ 7302250; omega⟩ (As := [.int (jI x1), .int (jI x2)]) (rest := [.int (jI r1)]) rfl rfl (Nat.le_of_ble_eq_true rfl) dL_law_659 (L_kIm (fun r2 τ1 gr2 hr2 _ => ?_))
  obtain ⟨hr2, hm1⟩ := hr2
  refine L_icmp_eq C.1 gr1 gr2 (tgt := 786) dL_law_662 (by decide) (fun _ => ?_) (fun z => absurd (hr1.trans hr2.symm) z)
  exact LJ.widen (by omega) (by omega) (next _ _ _ hW1 hm1 (hI))
set_option maxHeartbeats 4000000 in
theorem lo_stretches {F : FT} {E : ET} {b L : Nat} {vx : Nat → Int32} {Q : State → Prop} {c0 s0 : Nat} {σ τ : Sg} {W : Wd} {i : Nat} (C : LC F E b L vx) (hi : i + 3 < L) (hc : c0 + 2 ≤ 600000 ∧ s0 + 42 ≤ 7302250) (hW : ClC σ W) (hm : MoC τ W) (hI : InvW W) (next : ∀ σ' τ' W', ClC σ' W' → MoC τ' W' → InvW W' → LJ F E Q (c0 + 2) (s0 + 42) σ' τ' 786 [(3, .int (jI (i : Int))), (0, .ref b), (1, .ref (adE E 0)), (2, .ref (adE E 279))] []) : LJ F E Q c0 s0 σ τ 667 [(3, .int (jI (i : Int))), (0, .ref b), (1, .ref (adE E 0)), (2, .ref (adE E 279))] [] := by
  have g1 : rgI (vx (i + 1)).toInt := rgI_of _
  generalize ex1 : (vx (i + 1)).toInt = x1 at g1
  refine L_aload_n C.1 dL_law_667 rfl 2 rfl ?_
  refine L_aload_n C.1 dL_law_668 rfl 1 rfl ?_
  refine L_iload_n C.1 dL_law_669 rfl 0 rfl ?_
  refine L_iconst C.1 dL_law_670 ?_
  refine L_iadd C.1 dL_law_671 ?_
  refine L_sld C (j := i + 1) (by omega) (by omega) dL_law_672 ?_
  rw [ex1]
  have h1 := c_stretches (Q := fun r c' => r = strQ W.A x1 ∧ ClC c' W) hW hI (i := x1) (fun c' hc' => ⟨rfl, hc'⟩)
  refine L_Vc C.1 C.2.2.2.2.2.2.1 C.2.2.2.2.2.2.2 (ct_X9_stretches C.2.2.2.2.2.2.1 g1 h1) vk_X9_stretches vm_X9_stretches vi_X9_stretches vs_X9_stretches rfl (clE_k E σ kc0) ⟨rfl, rfl⟩ (by decide) ⟨by show c0 ≤ 600000; omega, by show s0 ≤ 7302250; omega⟩ (fun _ _ z => qI_n z) (As := [.int (jI x1)]) (rest := []) rfl rfl (Nat.le_of_ble_eq_true rfl) dL_law_673 (L_kI (fun r1 σ1 gr1 hr1 _ => ?_))
  obtain ⟨hr1, hW1⟩ := hr1
  refine L_aload_n C.1 dL_law_676 rfl 3 rfl ?_
  refine L_aload_n C.1 dL_law_677 rfl 1 rfl ?_
  refine L_iload_n C.1 dL_law_678 rfl 0 rfl ?_
  refine L_iconst C.1 dL_law_679 ?_
  refine L_iadd C.1 dL_law_680 ?_
  refine L_sld C (j := i + 1) (by omega) (by omega) dL_law_681 ?_
  rw [ex1]
  have h2 := m_stretches (Q := fun r m' => r = strQ W.A x1 ∧ MoC m' W) hm hI (i := x1) (fun m' hm' => ⟨rfl, hm'⟩)
  refine L_Vm C.2.1 C.2.2.2.2.2.2.1 C.2.2.2.2.2.2.2 (ct_X10_stretches rfl g1 h2) vk_X10_stretches vm_X10_stretches vi_X10_stretches vs_X10_stretches rfl (clE_k _ τ kc279) ⟨rfl, rfl⟩ (by decide) ⟨by show c0 ≤ 600000; omega, by show s0 ≤ 7302250; omega⟩ (As := [.int (jI x1)]) (rest := [.int (jI r1)]) rfl rfl (Nat.le_of_ble_eq_true rfl) dL_law_682 (L_kIm (fun r2 τ1 gr2 hr2 _ => ?_))
  obtain ⟨hr2, hm1⟩ := hr2
  refine L_icmp_eq C.1 gr1 gr2 (tgt := 786) dL_law_685 (by decide) (fun _ => ?_) (fun z => absurd (hr1.trans hr2.symm) z)
  exact LJ.widen (by omega) (by omega) (next _ _ _ hW1 hm1 (hI))
set_option maxHeartbeats 4000000 in
theorem lo_shown {F : FT} {E : ET} {b L : Nat} {vx : Nat → Int32} {Q : State → Prop} {c0 s0 : Nat} {σ τ : Sg} {W : Wd} {i : Nat} (C : LC F E b L vx) (hi : i + 3 < L) (hc : c0 + 2 ≤ 600000 ∧ s0 + 42 ≤ 7302250) (hW : ClC σ W) (hm : MoC τ W) (hI : InvW W) (next : ∀ σ' τ' W', ClC σ' W' → MoC τ' W' → InvW W' → LJ F E Q (c0 + 2) (s0 + 42) σ' τ' 786 [(3, .int (jI (i : Int))), (0, .ref b), (1, .ref (adE E 0)), (2, .ref (adE E 279))] []) : LJ F E Q c0 s0 σ τ 690 [(3, .int (jI (i : Int))), (0, .ref b), (1, .ref (adE E 0)), (2, .ref (adE E 279))] [] := by
  have g1 : rgI (vx (i + 1)).toInt := rgI_of _
  generalize ex1 : (vx (i + 1)).toInt = x1 at g1
  refine L_aload_n C.1 dL_law_690 rfl 2 rfl ?_
  refine L_aload_n C.1 dL_law_691 rfl 1 rfl ?_
  refine L_iload_n C.1 dL_law_692 rfl 0 rfl ?_
  refine L_iconst C.1 dL_law_693 ?_
  refine L_iadd C.1 dL_law_694 ?_
  refine L_sld C (j := i + 1) (by omega) (by omega) dL_law_695 ?_
  rw [ex1]
  have h1 := c_shown (Q := fun r => r = shownQ W.A x1) hW hI (x := x1) rfl
  refine L_Vc C.1 C.2.2.2.2.2.2.1 C.2.2.2.2.2.2.2 (ct_X9_shown C.2.2.2.2.2.2.1 g1 h1) vk_X9_shown vm_X9_shown vi_X9_shown vs_X9_shown rfl (clE_k E σ kc0) ⟨rfl, rfl⟩ (by decide) ⟨by show c0 ≤ 600000; omega, by show s0 ≤ 7302250; omega⟩ (fun _ _ z => qI_n z) (As := [.int (jI x1)]) (rest := []) rfl rfl (Nat.le_of_ble_eq_true rfl) dL_law_696 (L_pI (fun r1 gr1 hr1 => ?_))
  have hW1 := hW
  refine L_aload_n C.1 dL_law_699 rfl 3 rfl ?_
  refine L_aload_n C.1 dL_law_700 rfl 1 rfl ?_
  refine L_iload_n C.1 dL_law_701 rfl 0 rfl ?_
  refine L_iconst C.1 dL_law_702 ?_
  refine L_iadd C.1 dL_law_703 ?_
  refine L_sld C (j := i + 1) (by omega) (by omega) dL_law_704 ?_
  rw [ex1]
  have h2 := m_shown (Q := fun r m' => r = shownQ W.A x1 ∧ MoC m' W) hm hI (x := x1) (fun m' hm' => ⟨rfl, hm'⟩)
  refine L_Vm C.2.1 C.2.2.2.2.2.2.1 C.2.2.2.2.2.2.2 (ct_X10_shown rfl g1 h2) vk_X10_shown vm_X10_shown vi_X10_shown vs_X10_shown rfl (clE_k _ τ kc279) ⟨rfl, rfl⟩ (by decide) ⟨by show c0 ≤ 600000; omega, by show s0 ≤ 7302250; omega⟩ (As := [.int (jI x1)]) (rest := [.int (jI r1)]) rfl rfl (Nat.le_of_ble_eq_true rfl) dL_law_705 (L_kIm (fun r2 τ1 gr2 hr2 _ => ?_))
  obtain ⟨hr2, hm1⟩ := hr2
  refine L_icmp_eq C.1 gr1 gr2 (tgt := 786) dL_law_708 (by decide) (fun _ => ?_) (fun z => absurd (hr1.trans hr2.symm) z)
  exact LJ.widen (by omega) (by omega) (next _ _ _ hW1 hm1 (hI))
set_option maxHeartbeats 4000000 in
theorem lo_faults {F : FT} {E : ET} {b L : Nat} {vx : Nat → Int32} {Q : State → Prop} {c0 s0 : Nat} {σ τ : Sg} {W : Wd} {i : Nat} (C : LC F E b L vx) (hi : i + 3 < L) (hc : c0 + 2 ≤ 600000 ∧ s0 + 42 ≤ 7302250) (hW : ClC σ W) (hm : MoC τ W) (hI : InvW W) (next : ∀ σ' τ' W', ClC σ' W' → MoC τ' W' → InvW W' → LJ F E Q (c0 + 2) (s0 + 42) σ' τ' 786 [(3, .int (jI (i : Int))), (0, .ref b), (1, .ref (adE E 0)), (2, .ref (adE E 279))] []) : LJ F E Q c0 s0 σ τ 713 [(3, .int (jI (i : Int))), (0, .ref b), (1, .ref (adE E 0)), (2, .ref (adE E 279))] [] := by
  have g1 : rgI (vx (i + 1)).toInt := rgI_of _
  generalize ex1 : (vx (i + 1)).toInt = x1 at g1
  refine L_aload_n C.1 dL_law_713 rfl 2 rfl ?_
  refine L_aload_n C.1 dL_law_714 rfl 1 rfl ?_
  refine L_iload_n C.1 dL_law_715 rfl 0 rfl ?_
  refine L_iconst C.1 dL_law_716 ?_
  refine L_iadd C.1 dL_law_717 ?_
  refine L_sld C (j := i + 1) (by omega) (by omega) dL_law_718 ?_
  rw [ex1]
  have h1 := c_faults (Q := fun r => r = faultsQ W.A x1) hW hI (x := x1) rfl
  refine L_Vc C.1 C.2.2.2.2.2.2.1 C.2.2.2.2.2.2.2 (ct_X9_faults C.2.2.2.2.2.2.1 g1 h1) vk_X9_faults vm_X9_faults vi_X9_faults vs_X9_faults rfl (clE_k E σ kc0) ⟨rfl, rfl⟩ (by decide) ⟨by show c0 ≤ 600000; omega, by show s0 ≤ 7302250; omega⟩ (fun _ _ z => qI_n z) (As := [.int (jI x1)]) (rest := []) rfl rfl (Nat.le_of_ble_eq_true rfl) dL_law_719 (L_pI (fun r1 gr1 hr1 => ?_))
  have hW1 := hW
  refine L_aload_n C.1 dL_law_722 rfl 3 rfl ?_
  refine L_aload_n C.1 dL_law_723 rfl 1 rfl ?_
  refine L_iload_n C.1 dL_law_724 rfl 0 rfl ?_
  refine L_iconst C.1 dL_law_725 ?_
  refine L_iadd C.1 dL_law_726 ?_
  refine L_sld C (j := i + 1) (by omega) (by omega) dL_law_727 ?_
  rw [ex1]
  have h2 := m_faults (Q := fun r m' => r = faultsQ W.A x1 ∧ MoC m' W) hm hI (x := x1) (fun m' hm' => ⟨rfl, hm'⟩)
  refine L_Vm C.2.1 C.2.2.2.2.2.2.1 C.2.2.2.2.2.2.2 (ct_X10_faults rfl g1 h2) vk_X10_faults vm_X10_faults vi_X10_faults vs_X10_faults rfl (clE_k _ τ kc279) ⟨rfl, rfl⟩ (by decide) ⟨by show c0 ≤ 600000; omega, by show s0 ≤ 7302250; omega⟩ (As := [.int (jI x1)]) (rest := [.int (jI r1)]) rfl rfl (Nat.le_of_ble_eq_true rfl) dL_law_728 (L_kIm (fun r2 τ1 gr2 hr2 _ => ?_))
  obtain ⟨hr2, hm1⟩ := hr2
  refine L_icmp_eq C.1 gr1 gr2 (tgt := 786) dL_law_731 (by decide) (fun _ => ?_) (fun z => absurd (hr1.trans hr2.symm) z)
  exact LJ.widen (by omega) (by omega) (next _ _ _ hW1 hm1 (hI))
set_option maxHeartbeats 4000000 in
theorem lo_told {F : FT} {E : ET} {b L : Nat} {vx : Nat → Int32} {Q : State → Prop} {c0 s0 : Nat} {σ τ : Sg} {W : Wd} {i : Nat} (C : LC F E b L vx) (hi : i + 3 < L) (hc : c0 + 2 ≤ 600000 ∧ s0 + 42 ≤ 7302250) (hW : ClC σ W) (hm : MoC τ W) (hI : InvW W) (next : ∀ σ' τ' W', ClC σ' W' → MoC τ' W' → InvW W' → LJ F E Q (c0 + 2) (s0 + 42) σ' τ' 786 [(3, .int (jI (i : Int))), (0, .ref b), (1, .ref (adE E 0)), (2, .ref (adE E 279))] []) : LJ F E Q c0 s0 σ τ 736 [(3, .int (jI (i : Int))), (0, .ref b), (1, .ref (adE E 0)), (2, .ref (adE E 279))] [] := by
  have g1 : rgI (vx (i + 1)).toInt := rgI_of _
  generalize ex1 : (vx (i + 1)).toInt = x1 at g1
  refine L_aload_n C.1 dL_law_736 rfl 2 rfl ?_
  refine L_aload_n C.1 dL_law_737 rfl 1 rfl ?_
  refine L_iload_n C.1 dL_law_738 rfl 0 rfl ?_
  refine L_iconst C.1 dL_law_739 ?_
  refine L_iadd C.1 dL_law_740 ?_
  refine L_sld C (j := i + 1) (by omega) (by omega) dL_law_741 ?_
  rw [ex1]
  have h1 := c_told (Q := fun r => r = toldQ W x1) hW hI (x := x1) rfl
  refine L_Vc C.1 C.2.2.2.2.2.2.1 C.2.2.2.2.2.2.2 (ct_X9_told C.2.2.2.2.2.2.1 g1 h1) vk_X9_told vm_X9_told vi_X9_told vs_X9_told rfl (clE_k E σ kc0) ⟨rfl, rfl⟩ (by decide) ⟨by show c0 ≤ 600000; omega, by show s0 ≤ 7302250; omega⟩ (fun _ _ z => qI_n z) (As := [.int (jI x1)]) (rest := []) rfl rfl (Nat.le_of_ble_eq_true rfl) dL_law_742 (L_pI (fun r1 gr1 hr1 => ?_))
  have hW1 := hW
  refine L_aload_n C.1 dL_law_745 rfl 3 rfl ?_
  refine L_aload_n C.1 dL_law_746 rfl 1 rfl ?_
  refine L_iload_n C.1 dL_law_747 rfl 0 rfl ?_
  refine L_iconst C.1 dL_law_748 ?_
  refine L_iadd C.1 dL_law_749 ?_
  refine L_sld C (j := i + 1) (by omega) (by omega) dL_law_750 ?_
  rw [ex1]
  have h2 := m_told (Q := fun r => r = toldQ W x1) hm hI (x := x1) rfl
  refine L_Vm C.2.1 C.2.2.2.2.2.2.1 C.2.2.2.2.2.2.2 (ct_X10_told rfl g1 h2) vk_X10_told vm_X10_told vi_X10_told vs_X10_told rfl (clE_k _ τ kc279) ⟨rfl, rfl⟩ (by decide) ⟨by show c0 ≤ 600000; omega, by show s0 ≤ 7302250; omega⟩ (As := [.int (jI x1)]) (rest := [.int (jI r1)]) rfl rfl (Nat.le_of_ble_eq_true rfl) dL_law_751 (L_pIm (fun r2 gr2 hr2 => ?_))
  have hm1 := hm
  refine L_icmp_eq C.1 gr1 gr2 (tgt := 786) dL_law_754 (by decide) (fun _ => ?_) (fun z => absurd (hr1.trans hr2.symm) z)
  exact LJ.widen (by omega) (by omega) (next _ _ _ hW1 hm1 (hI))
set_option maxHeartbeats 4000000 in
theorem lo_undo {F : FT} {E : ET} {b L : Nat} {vx : Nat → Int32} {Q : State → Prop} {c0 s0 : Nat} {σ τ : Sg} {W : Wd} {i : Nat} (C : LC F E b L vx) (hi : i + 3 < L) (hc : c0 + 2 ≤ 600000 ∧ s0 + 42 ≤ 7302250) (hW : ClC σ W) (hm : MoC τ W) (hI : InvW W) (next : ∀ σ' τ' W', ClC σ' W' → MoC τ' W' → InvW W' → LJ F E Q (c0 + 2) (s0 + 42) σ' τ' 786 [(3, .int (jI (i : Int))), (0, .ref b), (1, .ref (adE E 0)), (2, .ref (adE E 279))] []) : LJ F E Q c0 s0 σ τ 759 [(3, .int (jI (i : Int))), (0, .ref b), (1, .ref (adE E 0)), (2, .ref (adE E 279))] [] := by
  refine L_aload_n C.1 dL_law_759 rfl 2 rfl ?_
  have h1 := c_undo (Q := fun r c' => r = (undoS W).r ∧ ClC c' (undoS W).W) hW hI (fun c' hc' => ⟨rfl, hc'⟩)
  refine L_Vc C.1 C.2.2.2.2.2.2.1 C.2.2.2.2.2.2.2 (ct_X9_undo C.2.2.2.2.2.2.1 h1) vk_X9_undo vm_X9_undo vi_X9_undo vs_X9_undo rfl (clE_k E σ kc0) ⟨rfl, rfl⟩ (by decide) ⟨by show c0 ≤ 600000; omega, by show s0 ≤ 7302250; omega⟩ (fun _ _ z => qI_n z) (As := []) (rest := []) rfl rfl (Nat.le_of_ble_eq_true rfl) dL_law_760 (L_kI (fun r1 σ1 gr1 hr1 _ => ?_))
  obtain ⟨hr1, hW1⟩ := hr1
  refine L_aload_n C.1 dL_law_763 rfl 3 rfl ?_
  have h2 := mUndo_sp (Q := fun r m' => r = (undoS W).r ∧ MoC m' (undoS W).W) hm hI (fun m' hm' => ⟨rfl, hm'⟩)
  refine L_Vm C.2.1 C.2.2.2.2.2.2.1 C.2.2.2.2.2.2.2 (ct_X10_undo rfl h2) vk_X10_undo vm_X10_undo vi_X10_undo vs_X10_undo rfl (clE_k _ τ kc279) ⟨rfl, rfl⟩ (by decide) ⟨by show c0 ≤ 600000; omega, by show s0 ≤ 7302250; omega⟩ (As := []) (rest := [.int (jI r1)]) rfl rfl (Nat.le_of_ble_eq_true rfl) dL_law_764 (L_kIm (fun r2 τ1 gr2 hr2 _ => ?_))
  obtain ⟨hr2, hm1⟩ := hr2
  refine L_icmp_eq C.1 gr1 gr2 (tgt := 786) dL_law_767 (by decide) (fun _ => ?_) (fun z => absurd (hr1.trans hr2.symm) z)
  exact LJ.widen (by omega) (by omega) (next _ _ _ hW1 hm1 (inv_undo hI))
set_option maxHeartbeats 4000000 in
theorem lo_digest {F : FT} {E : ET} {b L : Nat} {vx : Nat → Int32} {Q : State → Prop} {c0 s0 : Nat} {σ τ : Sg} {W : Wd} {i : Nat} (C : LC F E b L vx) (hi : i + 3 < L) (hc : c0 + 2 ≤ 600000 ∧ s0 + 42 ≤ 7302250) (hW : ClC σ W) (hm : MoC τ W) (hI : InvW W) (next : ∀ σ' τ' W', ClC σ' W' → MoC τ' W' → InvW W' → LJ F E Q (c0 + 2) (s0 + 42) σ' τ' 786 [(3, .int (jI (i : Int))), (0, .ref b), (1, .ref (adE E 0)), (2, .ref (adE E 279))] []) : LJ F E Q c0 s0 σ τ 772 [(3, .int (jI (i : Int))), (0, .ref b), (1, .ref (adE E 0)), (2, .ref (adE E 279))] [] := by
  refine L_aload_n C.1 dL_law_772 rfl 2 rfl ?_
  have h1 := c_digest (Q := fun r c' => r = digQ W ∧ ClC c' W) hW hI (fun c' hc' => ⟨rfl, hc'⟩)
  refine L_Vc C.1 C.2.2.2.2.2.2.1 C.2.2.2.2.2.2.2 (ct_X9_digest C.2.2.2.2.2.2.1 h1) vk_X9_digest vm_X9_digest vi_X9_digest vs_X9_digest rfl (clE_k E σ kc0) ⟨rfl, rfl⟩ (by decide) ⟨by show c0 ≤ 600000; omega, by show s0 ≤ 7302250; omega⟩ (fun _ _ z => qL_n z) (As := []) (rest := []) rfl rfl (Nat.le_of_ble_eq_true rfl) dL_law_773 (L_kL (fun r1 σ1 hr1 _ => ?_))
  obtain ⟨hr1, hW1⟩ := hr1
  refine L_aload_n C.1 dL_law_776 rfl 3 rfl ?_
  have h2 := m_digest (Q := fun r m' => r = digQ W ∧ MoC m' W) hm hI (fun m' hm' => ⟨rfl, hm'⟩)
  refine L_Vm C.2.1 C.2.2.2.2.2.2.1 C.2.2.2.2.2.2.2 (ct_X10_digest rfl h2) vk_X10_digest vm_X10_digest vi_X10_digest vs_X10_digest rfl (clE_k _ τ kc279) ⟨rfl, rfl⟩ (by decide) ⟨by show c0 ≤ 600000; omega, by show s0 ≤ 7302250; omega⟩ (As := []) (rest := [.long (jL r1)]) rfl rfl (Nat.le_of_ble_eq_true rfl) dL_law_777 (L_kLm (fun r2 τ1 hr2 _ => ?_))
  obtain ⟨hr2, hm1⟩ := hr2
  refine L_lcmp0 C.1 (hr1.trans hr2.symm) dL_law_780 ?_
  refine L_if_eq C.1 rgI_0 (tgt := 786) dL_law_781 (by decide) (fun _ => ?_) (fun z => absurd rfl z)
  exact LJ.widen (by omega) (by omega) (next _ _ _ hW1 hm1 (hI))
