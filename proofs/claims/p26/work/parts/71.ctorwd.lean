/-! constructors: the words of the others -/
theorem wo_X9 : Cond.methodLink RX9 1 Lib.objectInit ∈ lw_gt := gt_in (List.mem_append_right _ (List.mem_of_getElem? (i := 23) (by decide +kernel))) rfl
theorem wo_X2 : Cond.methodLink RX2 3 Lib.objectInit ∈ lw_gt := gt_in (List.mem_append_right _ (List.mem_of_getElem? (i := 31) (by decide +kernel))) rfl
theorem wo_X5 : Cond.methodLink RX5 3 Lib.objectInit ∈ lw_gt := gt_in (List.mem_append_right _ (List.mem_of_getElem? (i := 56) (by decide +kernel))) rfl
theorem wo_X3 : Cond.methodLink RX3 1 Lib.objectInit ∈ lw_gt := gt_in (List.mem_append_right _ (List.mem_of_getElem? (i := 92) (by decide +kernel))) rfl
theorem wo_X8 : Cond.methodLink RX8 3 Lib.objectInit ∈ lw_gt := gt_in (List.mem_append_right _ (List.mem_of_getElem? (i := 178) (by decide +kernel))) rfl
theorem wo_X1 : Cond.methodLink RX1 3 Lib.objectInit ∈ lw_gt := gt_in (List.mem_append_right _ (List.mem_of_getElem? (i := 204) (by decide +kernel))) rfl
theorem wn_X9_13 : Cond.classLink RX9 13 RX2 ∈ lw_gt := gt_in (List.mem_append_right _ (List.mem_of_getElem? (i := 26) (by decide +kernel))) rfl
theorem wn_X9_18 : Cond.classLink RX9 18 RX5 ∈ lw_gt := gt_in (List.mem_append_right _ (List.mem_of_getElem? (i := 51) (by decide +kernel))) rfl
theorem wn_X5_9 : Cond.classLink RX5 9 RX0 ∈ lw_gt := gt_in (List.mem_append_right _ (List.mem_of_getElem? (i := 57) (by decide +kernel))) rfl
theorem wn_X5_18 : Cond.classLink RX5 18 RX4 ∈ lw_gt := gt_in (List.mem_append_right _ (List.mem_of_getElem? (i := 74) (by decide +kernel))) rfl
theorem wn_X5_25 : Cond.classLink RX5 25 RX3 ∈ lw_gt := gt_in (List.mem_append_right _ (List.mem_of_getElem? (i := 87) (by decide +kernel))) rfl
theorem wn_X5_32 : Cond.classLink RX5 32 RX7 ∈ lw_gt := gt_in (List.mem_append_right _ (List.mem_of_getElem? (i := 100) (by decide +kernel))) rfl
theorem wn_X9_27 : Cond.classLink RX9 27 RX8 ∈ lw_gt := gt_in (List.mem_append_right _ (List.mem_of_getElem? (i := 173) (by decide +kernel))) rfl
theorem wn_X8_18 : Cond.classLink RX8 18 RX5 ∈ lw_gt := gt_in (List.mem_append_right _ (List.mem_of_getElem? (i := 179) (by decide +kernel))) rfl
theorem wn_X9_34 : Cond.classLink RX9 34 RX1 ∈ lw_gt := gt_in (List.mem_append_right _ (List.mem_of_getElem? (i := 199) (by decide +kernel))) rfl
theorem wn_X1_9 : Cond.classLink RX1 9 RX5 ∈ lw_gt := gt_in (List.mem_append_right _ (List.mem_of_getElem? (i := 205) (by decide +kernel))) rfl
theorem wi_X9 : Cond.instantiable RX9 5 ∈ lw_gt := gt_in (List.mem_append_right _ (List.mem_of_getElem? (i := 19) (by decide +kernel))) rfl
theorem wi_X2 : Cond.instantiable RX2 2 ∈ lw_gt := gt_in (List.mem_append_right _ (List.mem_of_getElem? (i := 27) (by decide +kernel))) rfl
theorem wi_X5 : Cond.instantiable RX5 4 ∈ lw_gt := gt_in (List.mem_append_right _ (List.mem_of_getElem? (i := 52) (by decide +kernel))) rfl
theorem wi_X0 : Cond.instantiable RX0 3 ∈ lw_gt := gt_in (List.mem_append_right _ (List.mem_of_getElem? (i := 58) (by decide +kernel))) rfl
theorem wi_X4 : Cond.instantiable RX4 2 ∈ lw_gt := gt_in (List.mem_append_right _ (List.mem_of_getElem? (i := 75) (by decide +kernel))) rfl
theorem wi_X3 : Cond.instantiable RX3 1 ∈ lw_gt := gt_in (List.mem_append_right _ (List.mem_of_getElem? (i := 88) (by decide +kernel))) rfl
theorem wi_X7 : Cond.instantiable RX7 3 ∈ lw_gt := gt_in (List.mem_append_right _ (List.mem_of_getElem? (i := 101) (by decide +kernel))) rfl
theorem wi_X8 : Cond.instantiable RX8 5 ∈ lw_gt := gt_in (List.mem_append_right _ (List.mem_of_getElem? (i := 174) (by decide +kernel))) rfl
theorem wi_X1 : Cond.instantiable RX1 2 ∈ lw_gt := gt_in (List.mem_append_right _ (List.mem_of_getElem? (i := 200) (by decide +kernel))) rfl
theorem wz_X9 : Cond.initialized RX9 ∈ lw_gt := gt_in (List.mem_append_right _ (List.mem_of_getElem? (i := 1) (by decide +kernel))) rfl
theorem wz_X2 : Cond.initialized RX2 ∈ lw_gt := gt_in (List.mem_append_right _ (List.mem_of_getElem? (i := 2) (by decide +kernel))) rfl
theorem wz_X5 : Cond.initialized RX5 ∈ lw_gt := gt_in (List.mem_append_right _ (List.mem_of_getElem? (i := 5) (by decide +kernel))) rfl
theorem wz_X0 : Cond.initialized RX0 ∈ lw_gt := gt_in (List.mem_append_right _ (List.mem_of_getElem? (i := 6) (by decide +kernel))) rfl
theorem wz_X4 : Cond.initialized RX4 ∈ lw_gt := gt_in (List.mem_append_right _ (List.mem_of_getElem? (i := 7) (by decide +kernel))) rfl
theorem wz_X3 : Cond.initialized RX3 ∈ lw_gt := gt_in (List.mem_append_right _ (List.mem_of_getElem? (i := 8) (by decide +kernel))) rfl
theorem wz_X7 : Cond.initialized RX7 ∈ lw_gt := gt_in (List.mem_append_right _ (List.mem_of_getElem? (i := 9) (by decide +kernel))) rfl
theorem wz_X8 : Cond.initialized RX8 ∈ lw_gt := gt_in (List.mem_append_right _ (List.mem_of_getElem? (i := 11) (by decide +kernel))) rfl
theorem wz_X1 : Cond.initialized RX1 ∈ lw_gt := gt_in (List.mem_append_right _ (List.mem_of_getElem? (i := 12) (by decide +kernel))) rfl
theorem wm_X9_15i : Cond.methodLink RX9 15 yX2_init ∈ lw_gt := gt_in (List.mem_append_right _ (List.mem_of_getElem? (i := 28) (by decide +kernel))) rfl
theorem wm_X9_20i : Cond.methodLink RX9 20 yX5_init ∈ lw_gt := gt_in (List.mem_append_right _ (List.mem_of_getElem? (i := 53) (by decide +kernel))) rfl
theorem wm_X5_27i : Cond.methodLink RX5 27 yX3_init ∈ lw_gt := gt_in (List.mem_append_right _ (List.mem_of_getElem? (i := 89) (by decide +kernel))) rfl
theorem wm_X5_34i : Cond.methodLink RX5 34 yX7_init ∈ lw_gt := gt_in (List.mem_append_right _ (List.mem_of_getElem? (i := 102) (by decide +kernel))) rfl
theorem wm_X9_29i : Cond.methodLink RX9 29 yX8_init ∈ lw_gt := gt_in (List.mem_append_right _ (List.mem_of_getElem? (i := 175) (by decide +kernel))) rfl
theorem wm_X8_20i : Cond.methodLink RX8 20 yX5_init ∈ lw_gt := gt_in (List.mem_append_right _ (List.mem_of_getElem? (i := 180) (by decide +kernel))) rfl
theorem wm_X9_36i : Cond.methodLink RX9 36 yX1_init ∈ lw_gt := gt_in (List.mem_append_right _ (List.mem_of_getElem? (i := 201) (by decide +kernel))) rfl
theorem wm_X1_17i : Cond.methodLink RX1 17 yX5_init ∈ lw_gt := gt_in (List.mem_append_right _ (List.mem_of_getElem? (i := 207) (by decide +kernel))) rfl
theorem wim_X9 : Cond.instanceMethod yX9_init ∈ lw_gt := gt_in (List.mem_append_right _ (List.mem_of_getElem? (i := 21) (by decide +kernel))) rfl
theorem wim_X2 : Cond.instanceMethod yX2_init ∈ lw_gt := gt_in (List.mem_append_right _ (List.mem_of_getElem? (i := 29) (by decide +kernel))) rfl
theorem wim_X5 : Cond.instanceMethod yX5_init ∈ lw_gt := gt_in (List.mem_append_right _ (List.mem_of_getElem? (i := 54) (by decide +kernel))) rfl
theorem wim_X0 : Cond.instanceMethod yX0_init ∈ lw_gt := gt_in (List.mem_append_right _ (List.mem_of_getElem? (i := 60) (by decide +kernel))) rfl
theorem wim_X4 : Cond.instanceMethod yX4_init ∈ lw_gt := gt_in (List.mem_append_right _ (List.mem_of_getElem? (i := 77) (by decide +kernel))) rfl
theorem wim_X3 : Cond.instanceMethod yX3_init ∈ lw_gt := gt_in (List.mem_append_right _ (List.mem_of_getElem? (i := 90) (by decide +kernel))) rfl
theorem wim_X7 : Cond.instanceMethod yX7_init ∈ lw_gt := gt_in (List.mem_append_right _ (List.mem_of_getElem? (i := 103) (by decide +kernel))) rfl
theorem wim_X8 : Cond.instanceMethod yX8_init ∈ lw_gt := gt_in (List.mem_append_right _ (List.mem_of_getElem? (i := 176) (by decide +kernel))) rfl
theorem wim_X1 : Cond.instanceMethod yX1_init ∈ lw_gt := gt_in (List.mem_append_right _ (List.mem_of_getElem? (i := 202) (by decide +kernel))) rfl
theorem ck_X9i : CkE yX9_init cX9_init 2 none 0 := ⟨gt_in (List.mem_append_right _ (List.mem_of_getElem? (i := 22) (by decide +kernel))) rfl, wz_X9, by decide +kernel⟩
theorem ck_X2i : CkE yX2_init cX2_init 5 none 3 := ⟨gt_in (List.mem_append_right _ (List.mem_of_getElem? (i := 30) (by decide +kernel))) rfl, wz_X2, by decide +kernel⟩
theorem ck_X5i : CkE yX5_init cX5_init 2 none 1 := ⟨gt_in (List.mem_append_right _ (List.mem_of_getElem? (i := 55) (by decide +kernel))) rfl, wz_X5, by decide +kernel⟩
theorem ck_X0i : CkE yX0_init cX0_init 1 none 0 := ⟨gt_in (List.mem_append_right _ (List.mem_of_getElem? (i := 61) (by decide +kernel))) rfl, wz_X0, by decide +kernel⟩
theorem ck_X4i : CkE yX4_init cX4_init 1 none 0 := ⟨gt_in (List.mem_append_right _ (List.mem_of_getElem? (i := 78) (by decide +kernel))) rfl, wz_X4, by decide +kernel⟩
theorem ck_X3i : CkE yX3_init cX3_init 1 none 0 := ⟨gt_in (List.mem_append_right _ (List.mem_of_getElem? (i := 91) (by decide +kernel))) rfl, wz_X3, by decide +kernel⟩
theorem ck_X7i : CkE yX7_init cX7_init 3 none 1 := ⟨gt_in (List.mem_append_right _ (List.mem_of_getElem? (i := 104) (by decide +kernel))) rfl, wz_X7, by decide +kernel⟩
theorem ck_X8i : CkE yX8_init cX8_init 2 none 1 := ⟨gt_in (List.mem_append_right _ (List.mem_of_getElem? (i := 177) (by decide +kernel))) rfl, wz_X8, by decide +kernel⟩
theorem ck_X1i : CkE yX1_init cX1_init 3 none 1 := ⟨gt_in (List.mem_append_right _ (List.mem_of_getElem? (i := 203) (by decide +kernel))) rfl, wz_X1, by decide +kernel⟩
