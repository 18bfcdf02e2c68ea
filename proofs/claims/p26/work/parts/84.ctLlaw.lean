/-! the law: contracts (printed by wip/p26/gen/emit26.py) -/
set_option maxHeartbeats 4000000 in
set_option maxRecDepth 100000 in
theorem jj_L_law {F : FT} {E0 E : ET} (hE : E = mE E0 0 false) {QF : State → Prop} (hs : eS E = true) {sl : Int} {sx : Int → Int} (hsl : sl = scL E) (hsx : sx = scX E) {v : Int} (gv : rgI v) {s : Sg} {Q : Int → Sg → Prop} (C : Cx F E cL_law RL (some .boolean) room_1 9) (hAF : ∀ a, adA E s a → fA F a) (hret : ∀ {pc : Nat}, decode cL_law pc = .ok (.ireturn, 1) → ∀ {x : Int} {t : Sg} {lv : List (Nat × Value)} {c0 s0 : Nat}, c0 ≤ 298 ∧ s0 ≤ 2006 → Q x t → JQ F E QF c0 s0 t pc lv [.int (jI x)]) (h : wp_L_law sl sx v s Q) : JQ F E QF 292 1964 s 13 [(1, .ref (adE E 0)), (0, .ref (ea E 9))] [.int (jI v)] := by
  have j213 : ∀ (x5 : Int) (t0_213 : Int) (sj : Sg), wj_L_law_213  sl sx x5 t0_213 sj Q → rgI x5 → rgI t0_213 → gN sj = gN s → JQ F E QF 298 2006 sj 213 [(0, .ref (ea E 9)), (1, .ref (adE E 0)), (5, .int (jI x5))] [.int (jI t0_213)] := by
    intro x5 t0_213 sj h g5 gt0_213 nj
    refine J_istore C dL_law_213 (by decide) (lv' := [(4, .int (jI t0_213)), (0, .ref (ea E 9)), (1, .ref (adE E 0)), (5, .int (jI x5))]) rfl ?_
    refine J_iconst C dL_law_215 ?_
    refine J_istore C dL_law_216 (by decide) (lv' := [(8, .int (jI 0)), (4, .int (jI t0_213)), (0, .ref (ea E 9)), (1, .ref (adE E 0)), (5, .int (jI x5))]) rfl ?_
    replace h := h (fun (x4_218 : Int) (x8_218 : Int) (sL218 : Sg) => rgI x4_218 → rgI x8_218 → gN sL218 = gN s → JQ F E QF 298 2006 sL218 218 [(0, .ref (ea E 9)), (1, .ref (adE E 0)), (4, .int (jI x4_218)), (5, .int (jI x5)), (8, .int (jI x8_218))] []) (by
      intro x4_218 x8_218 sL218 h g4_218 g8_218 nL218
      have j242 : ∀ (x8 : Int) (t0_242 : Int) (sj : Sg), wj_L_law_242 (fun (x4_218 : Int) (x8_218 : Int) (sL218 : Sg) => rgI x4_218 → rgI x8_218 → gN sL218 = gN s → JQ F E QF 298 2006 sL218 218 [(0, .ref (ea E 9)), (1, .ref (adE E 0)), (4, .int (jI x4_218)), (5, .int (jI x5)), (8, .int (jI x8_218))] []) sl sx x5 x8 t0_242 sj Q → rgI x8 → rgI t0_242 → gN sj = gN s → JQ F E QF 298 2006 sj 242 [(0, .ref (ea E 9)), (1, .ref (adE E 0)), (5, .int (jI x5)), (8, .int (jI x8))] [.int (jI t0_242)] := by
        intro x8 t0_242 sj h g8 gt0_242 nj
        refine J_istore C dL_law_242 (by decide) (lv' := [(4, .int (jI t0_242)), (0, .ref (ea E 9)), (1, .ref (adE E 0)), (5, .int (jI x5)), (8, .int (jI x8))]) rfl ?_
        refine J_iinc C dL_law_244 4 rfl (by decide) (lv' := [(8, .int (jI (x8 + 1))), (4, .int (jI t0_242)), (0, .ref (ea E 9)), (1, .ref (adE E 0)), (5, .int (jI x5))]) rfl ?_
        refine J_goto C (tgt := 218) dL_law_247 (by decide) ?_
        obtain ⟨g60, h⟩ := h
        exact J_sub [2, 3, 1, 4, 0] rfl (h gt0_242 g60 nj)
      have j241 : ∀ (x8 : Int) (sj : Sg), wj_L_law_241 (fun (x4_218 : Int) (x8_218 : Int) (sL218 : Sg) => rgI x4_218 → rgI x8_218 → gN sL218 = gN s → JQ F E QF 298 2006 sL218 218 [(0, .ref (ea E 9)), (1, .ref (adE E 0)), (4, .int (jI x4_218)), (5, .int (jI x5)), (8, .int (jI x8_218))] []) sl sx x5 x8 sj Q → rgI x8 → gN sj = gN s → JQ F E QF 298 2006 sj 241 [(0, .ref (ea E 9)), (1, .ref (adE E 0)), (5, .int (jI x5)), (8, .int (jI x8))] [] := by
        intro x8 sj h g8 nj
        refine J_iconst C dL_law_241 ?_
        exact J_sub [0, 1, 2, 3] rfl (j242 _ _ _ h g8 (rgN 0 (by decide)) nj)
      refine J_iload C dL_law_218 4 rfl ?_
      refine J_iload C dL_law_220 3 rfl ?_
      refine J_icmp_ge C g8_218 g5 (tgt := 250) dL_law_222 (by decide) (fun q68 => ?_) (fun q68 => ?_)
      · replace h := h.1 q68
        refine J_iload C dL_law_250 2 rfl ?_
        refine J_if_eq C g4_218 (tgt := 290) dL_law_252 (by decide) (fun q59 => ?_) (fun q59 => ?_)
        · replace h := h.1 q59
          refine J_iconst C dL_law_290 ?_
          exact hret dL_law_291 (by decide) h
        · replace h := h.2 q59
          refine J_aload_n C dL_law_255 rfl 1 rfl ?_
          refine J_bipush C dL_law_256 (by decide) ?_
          refine J_V C (ct_X9_told hs (rgN 8 (by decide)) h) ck_X9_told wm_L_47 win_X9_told wsel_X9_told (dmC hs kc0 (by decide)) (clE_k E sL218 kc0) rfl ⟨rfl, rfl⟩ (by decide) (by decide) (As := [.int (jI 8)]) (rest := []) rfl rfl (Nat.le_of_ble_eq_true rfl) dL_law_258 (J_pI (fun v44 g46 h => ?_))
          refine J_iconst C dL_law_261 ?_
          refine J_aload_n C dL_law_262 rfl 0 rfl ?_
          refine J_bipush C dL_law_263 (by decide) ?_
          refine J_S C (ct_L_cell hs hsl hsx (rgN 22 (by decide)) h) ck_L_cell wm_L_9 wst_L_cell ⟨rfl, rfl⟩ (by decide) (by decide) (As := [.ref (ea E 9), .int (jI 22)]) (rest := [.int (jI 1), .int (jI v44)]) rfl rfl (Nat.le_of_ble_eq_true rfl) dL_law_265 (J_pI (fun v48 g50 h => ?_))
          refine J_bipush C dL_law_268 (by decide) ?_
          refine J_irem C g50 (rgN 6 (by decide)) (by decide) dL_law_270 ?_
          refine J_iadd C dL_law_271 ?_
          obtain ⟨g52, h⟩ := h
          refine J_icmp_ne C g46 g52 (tgt := 290) dL_law_272 (by decide) (fun q58 => ?_) (fun q58 => ?_)
          · replace h := h.2 q58
            refine J_iconst C dL_law_290 ?_
            exact hret dL_law_291 (by decide) h
          · replace h := h.1 q58
            refine J_aload_n C dL_law_275 rfl 1 rfl ?_
            refine J_sipush C dL_law_276 (by decide) ?_
            refine J_V C (ct_X9_shown hs (rgN 10000 (by decide)) h) ck_X9_shown wm_L_114 win_X9_shown wsel_X9_shown (dmC hs kc0 (by decide)) (clE_k E sL218 kc0) rfl ⟨rfl, rfl⟩ (by decide) (by decide) (As := [.int (jI 10000)]) (rest := []) rfl rfl (Nat.le_of_ble_eq_true rfl) dL_law_279 (J_pI (fun v53 g55 h => ?_))
            refine J_iconst C dL_law_282 ?_
            refine J_icmp_ne C g55 (rgN (-1) (by decide)) (tgt := 290) dL_law_283 (by decide) (fun q57 => ?_) (fun q57 => ?_)
            · replace h := h.2 q57
              refine J_iconst C dL_law_290 ?_
              exact hret dL_law_291 (by decide) h
            · replace h := h.1 q57
              refine J_iconst C dL_law_286 ?_
              refine J_goto C (tgt := 291) dL_law_287 (by decide) ?_
              exact hret dL_law_291 (by decide) h
      · replace h := h.2 q68
        refine J_iload C dL_law_225 2 rfl ?_
        refine J_if_eq C g4_218 (tgt := 241) dL_law_227 (by decide) (fun q67 => ?_) (fun q67 => ?_)
        · replace h := h.1 q67
          exact J_sub [0, 1, 3, 4] rfl (j241 _ _ h g8_218 nL218)
        · replace h := h.2 q67
          refine J_aload_n C dL_law_230 rfl 1 rfl ?_
          refine J_V C (ct_X9_undo hs h) ck_X9_undo wm_L_111 win_X9_undo wsel_X9_undo (dmC hs kc0 (by decide)) (clE_k E sL218 kc0) rfl ⟨rfl, rfl⟩ (by decide) (by decide) (As := []) (rest := []) rfl rfl (Nat.le_of_ble_eq_true rfl) dL_law_231 (J_kI (fun v61 s62 g63 h n64 => ?_))
          have n65 : gN s62 = gN s := n64.trans (nL218)
          refine J_if_lt C g63 (tgt := 241) dL_law_234 (by decide) (fun q66 => ?_) (fun q66 => ?_)
          · replace h := h.1 q66
            exact J_sub [0, 1, 3, 4] rfl (j241 _ _ h g8_218 n65)
          · replace h := h.2 q66
            refine J_iconst C dL_law_237 ?_
            refine J_goto C (tgt := 242) dL_law_238 (by decide) ?_
            exact J_sub [0, 1, 3, 4] rfl (j242 _ _ _ h g8_218 (rgN 1 (by decide)) n65)
    )
    exact J_sub [2, 3, 1, 4, 0] rfl (h gt0_213 (rgN 0 (by decide)) nj)
  have j212 : ∀ (x5 : Int) (sj : Sg), wj_L_law_212  sl sx x5 sj Q → rgI x5 → gN sj = gN s → JQ F E QF 298 2006 sj 212 [(0, .ref (ea E 9)), (1, .ref (adE E 0)), (5, .int (jI x5))] [] := by
    intro x5 sj h g5 nj
    refine J_iconst C dL_law_212 ?_
    exact J_sub [0, 1, 2] rfl (j213 _ _ _ h g5 (rgN 0 (by decide)) nj)
  have j208 : ∀ (x5 : Int) (sj : Sg), wj_L_law_208  sl sx x5 sj Q → rgI x5 → gN sj = gN s → JQ F E QF 298 2006 sj 208 [(0, .ref (ea E 9)), (1, .ref (adE E 0)), (5, .int (jI x5))] [] := by
    intro x5 sj h g5 nj
    refine J_iconst C dL_law_208 ?_
    refine J_goto C (tgt := 213) dL_law_209 (by decide) ?_
    exact J_sub [0, 1, 2] rfl (j213 _ _ _ h g5 (rgN 1 (by decide)) nj)
  have j140 : ∀ (x3 : Int) (x4 : Int) (x5 : Int) (x6 : Int) (sj : Sg), wj_L_law_140  sl sx x3 x4 x5 x6 sj Q → rgI x3 → rgI x4 → rgI x5 → rgI x6 → gN sj = gN s → JQ F E QF 298 2006 sj 140 [(0, .ref (ea E 9)), (1, .ref (adE E 0)), (3, .int (jI x3)), (4, .int (jI x4)), (5, .int (jI x5)), (6, .int (jI x6))] [] := by
    intro x3 x4 x5 x6 sj h g3 g4 g5 g6 nj
    refine J_iconst C dL_law_140 ?_
    refine J_istore C dL_law_141 (by decide) (lv' := [(7, .int (jI 0)), (0, .ref (ea E 9)), (1, .ref (adE E 0)), (3, .int (jI x3)), (4, .int (jI x4)), (5, .int (jI x5)), (6, .int (jI x6))]) rfl ?_
    refine J_iconst C dL_law_143 ?_
    refine J_istore C dL_law_144 (by decide) (lv' := [(8, .int (jI 0)), (7, .int (jI 0)), (0, .ref (ea E 9)), (1, .ref (adE E 0)), (3, .int (jI x3)), (4, .int (jI x4)), (5, .int (jI x5)), (6, .int (jI x6))]) rfl ?_
    replace h := h (fun (x7_146 : Int) (x8_146 : Int) => rgI x7_146 → rgI x8_146 → JQ F E QF 298 2006 sj 146 [(0, .ref (ea E 9)), (1, .ref (adE E 0)), (3, .int (jI x3)), (4, .int (jI x4)), (5, .int (jI x5)), (6, .int (jI x6)), (7, .int (jI x7_146)), (8, .int (jI x8_146))] []) (by
      intro x7_146 x8_146 h g7_146 g8_146
      refine J_iload C dL_law_146 7 rfl ?_
      refine J_aload_n C dL_law_148 rfl 1 rfl ?_
      refine J_bipush C dL_law_149 (by decide) ?_
      refine J_V C (ct_X9_told hs (rgN 8 (by decide)) h) ck_X9_told wm_L_47 win_X9_told wsel_X9_told (dmC hs kc0 (by decide)) (clE_k E sj kc0) rfl ⟨rfl, rfl⟩ (by decide) (by decide) (As := [.int (jI 8)]) (rest := [.int (jI x8_146)]) rfl rfl (Nat.le_of_ble_eq_true rfl) dL_law_151 (J_pI (fun v40 g42 h => ?_))
      refine J_icmp_ge C g8_146 g42 (tgt := 183) dL_law_154 (by decide) (fun q83 => ?_) (fun q83 => ?_)
      · replace h := h.1 q83
        refine J_iload C dL_law_183 3 rfl ?_
        refine J_if_eq C g4 (tgt := 212) dL_law_185 (by decide) (fun q72 => ?_) (fun q72 => ?_)
        · replace h := h.1 q72
          exact J_sub [0, 1, 4] rfl (j212 _ _ h g5 nj)
        · replace h := h.2 q72
          refine J_iload C dL_law_188 5 rfl ?_
          refine J_if_eq C g6 (tgt := 202) dL_law_190 (by decide) (fun q71 => ?_) (fun q71 => ?_)
          · replace h := h.1 q71
            refine J_iload C dL_law_202 6 rfl ?_
            refine J_iload_n C dL_law_204 rfl 2 rfl ?_
            refine J_icmp_ne C g7_146 g3 (tgt := 212) dL_law_205 (by decide) (fun q69 => ?_) (fun q69 => ?_)
            · replace h := h.2 q69
              exact J_sub [0, 1, 4] rfl (j212 _ _ h g5 nj)
            · replace h := h.1 q69
              exact J_sub [0, 1, 4] rfl (j208 _ _ h g5 nj)
          · replace h := h.2 q71
            refine J_iload_n C dL_law_193 rfl 2 rfl ?_
            refine J_bipush C dL_law_194 (by decide) ?_
            refine J_icmp_ne C g3 (rgN (-3) (by decide)) (tgt := 212) dL_law_196 (by decide) (fun q70 => ?_) (fun q70 => ?_)
            · replace h := h.2 q70
              exact J_sub [0, 1, 4] rfl (j212 _ _ h g5 nj)
            · replace h := h.1 q70
              refine J_goto C (tgt := 208) dL_law_199 (by decide) ?_
              exact J_sub [0, 1, 4] rfl (j208 _ _ h g5 nj)
      · replace h := h.2 q83
        refine J_iload C dL_law_157 6 rfl ?_
        refine J_aload_n C dL_law_159 rfl 1 rfl ?_
        refine J_iload C dL_law_160 7 rfl ?_
        refine J_iconst C dL_law_162 ?_
        refine J_V C (ct_X9_subtitle hs g8_146 (rgN 1 (by decide)) h) ck_X9_subtitle wm_L_33 win_X9_subtitle wsel_X9_subtitle (dmC hs kc0 (by decide)) (clE_k E sj kc0) rfl ⟨rfl, rfl⟩ (by decide) (by decide) (As := [.int (jI x8_146), .int (jI 1)]) (rest := [.int (jI x7_146)]) rfl rfl (Nat.le_of_ble_eq_true rfl) dL_law_163 (J_pI (fun v73 g75 h => ?_))
        refine J_aload_n C dL_law_166 rfl 1 rfl ?_
        refine J_iload C dL_law_167 7 rfl ?_
        refine J_iconst C dL_law_169 ?_
        refine J_V C (ct_X9_subtitle hs g8_146 (rgN 0 (by decide)) h) ck_X9_subtitle wm_L_33 win_X9_subtitle wsel_X9_subtitle (dmC hs kc0 (by decide)) (clE_k E sj kc0) rfl ⟨rfl, rfl⟩ (by decide) (by decide) (As := [.int (jI x8_146), .int (jI 0)]) (rest := [.int (jI v73), .int (jI x7_146)]) rfl rfl (Nat.le_of_ble_eq_true rfl) dL_law_170 (J_pI (fun v77 g79 h => ?_))
        refine J_isub C dL_law_173 ?_
        refine J_iadd C dL_law_174 ?_
        obtain ⟨x7_175, e81⟩ : ∃ v : Int, v = (x7_146 + (v73 - v77)) := ⟨_, rfl⟩
        obtain ⟨g7_175, h⟩ := h x7_175 e81
        refine J_top e81 ?_
        refine J_istore C dL_law_175 (by decide) (lv' := [(7, .int (jI x7_175)), (0, .ref (ea E 9)), (1, .ref (adE E 0)), (3, .int (jI x3)), (4, .int (jI x4)), (5, .int (jI x5)), (6, .int (jI x6)), (8, .int (jI x8_146))]) rfl ?_
        refine J_iinc C dL_law_177 7 rfl (by decide) (lv' := [(8, .int (jI (x8_146 + 1))), (7, .int (jI x7_175)), (0, .ref (ea E 9)), (1, .ref (adE E 0)), (3, .int (jI x3)), (4, .int (jI x4)), (5, .int (jI x5)), (6, .int (jI x6))]) rfl ?_
        refine J_goto C (tgt := 146) dL_law_180 (by decide) ?_
        obtain ⟨g82, h⟩ := h
        exact J_sub [2, 3, 4, 5, 6, 7, 1, 0] rfl (h g7_175 g82)
    )
    exact J_sub [2, 3, 4, 5, 6, 7, 1, 0] rfl (h (rgN 0 (by decide)) (rgN 0 (by decide)))
  refine J_if_eq C gv (tgt := 31) dL_law_13 (by decide) (fun q120 => ?_) (fun q120 => ?_)
  · replace h := h.1 q120
    refine J_iconst C dL_law_31 ?_
    exact hret dL_law_32 (by decide) h
  · replace h := h.2 q120
    refine J_aload_n C dL_law_16 rfl 0 rfl ?_
    refine J_aload_n C dL_law_17 rfl 1 rfl ?_
    refine J_S C (ct_L_frames hs hsl hsx h) ck_L_frames wm_L_105 wst_L_frames ⟨rfl, rfl⟩ (by decide) (by decide) (As := [.ref (adE E 0), .ref (ea E 9)]) (rest := []) rfl rfl (Nat.le_of_ble_eq_true rfl) dL_law_18 (J_pZ (fun v21 g23 h => ?_))
    refine J_if_eq C (rg_z g23) (tgt := 31) dL_law_21 (by decide) (fun q119 => ?_) (fun q119 => ?_)
    · replace h := h.1 q119
      refine J_iconst C dL_law_31 ?_
      exact hret dL_law_32 (by decide) h
    · replace h := h.2 q119
      refine J_aload_n C dL_law_24 rfl 0 rfl ?_
      refine J_SG C (fun a ha => hAF a (adA_le (Nat.le_of_eq (rfl).symm) ha)) (ct_L_whole hE hs h) ck_L_whole wm_L_97 wst_L_whole ⟨rfl, rfl⟩ (by decide) (by decide) (As := [.ref (adE E 0)]) (rest := []) rfl rfl (Nat.le_of_ble_eq_true rfl) dL_law_25 (J_kZ (fun v25 s26 g27 h n28 => ?_))
      have n29 : gN s26 = gN s := n28
      refine J_if_ne C (rg_z g27) (tgt := 33) dL_law_28 (by decide) (fun q118 => ?_) (fun q118 => ?_)
      · replace h := h.2 q118
        refine J_iconst C dL_law_33 ?_
        refine J_aload_n C dL_law_34 rfl 1 rfl ?_
        refine J_bipush C dL_law_35 (by decide) ?_
        refine J_S C (ct_L_cell hs hsl hsx (rgN 56 (by decide)) h) ck_L_cell wm_L_9 wst_L_cell ⟨rfl, rfl⟩ (by decide) (by decide) (As := [.ref (ea E 9), .int (jI 56)]) (rest := [.int (jI 1)]) rfl rfl (Nat.le_of_ble_eq_true rfl) dL_law_37 (J_pI (fun v30 g32 h => ?_))
        refine J_bipush C dL_law_40 (by decide) ?_
        refine J_irem C g32 (rgN 31 (by decide)) (by decide) dL_law_42 ?_
        refine J_iadd C dL_law_43 ?_
        obtain ⟨x2_44, e34⟩ : ∃ v : Int, v = (1 + (Int.tmod v30 31)) := ⟨_, rfl⟩
        obtain ⟨g2_44, h⟩ := h x2_44 e34
        refine J_top e34 ?_
        refine J_istore_n C dL_law_44 rfl (by decide) (lv' := [(2, .int (jI x2_44)), (1, .ref (adE E 0)), (0, .ref (ea E 9))]) rfl ?_
        refine J_aload_n C dL_law_45 rfl 1 rfl ?_
        refine J_iload_n C dL_law_46 rfl 0 rfl ?_
        refine J_iconst C dL_law_47 ?_
        refine J_V C (ct_X9_ifConform hs g2_44 (rgN 1 (by decide)) h) ck_X9_ifConform wm_L_88 win_X9_ifConform wsel_X9_ifConform (dmC hs kc0 (by decide)) (clE_k E s26 kc0) rfl ⟨rfl, rfl⟩ (by decide) (by decide) (As := [.int (jI x2_44), .int (jI 1)]) (rest := []) rfl rfl (Nat.le_of_ble_eq_true rfl) dL_law_48 (J_kI (fun v35 s36 g37 h n38 => ?_))
        have n39 : gN s36 = gN s := n38.trans (n29)
        refine J_istore_n C dL_law_51 rfl (by decide) (lv' := [(3, .int (jI v35)), (2, .int (jI x2_44)), (1, .ref (adE E 0)), (0, .ref (ea E 9))]) rfl ?_
        refine J_iconst C dL_law_52 ?_
        refine J_istore C dL_law_53 (by decide) (lv' := [(4, .int (jI 1)), (3, .int (jI v35)), (2, .int (jI x2_44)), (1, .ref (adE E 0)), (0, .ref (ea E 9))]) rfl ?_
        refine J_iconst C dL_law_55 ?_
        refine J_istore C dL_law_56 (by decide) (lv' := [(5, .int (jI 0)), (4, .int (jI 1)), (3, .int (jI v35)), (2, .int (jI x2_44)), (1, .ref (adE E 0)), (0, .ref (ea E 9))]) rfl ?_
        refine J_iconst C dL_law_58 ?_
        refine J_istore C dL_law_59 (by decide) (lv' := [(6, .int (jI 0)), (5, .int (jI 0)), (4, .int (jI 1)), (3, .int (jI v35)), (2, .int (jI x2_44)), (1, .ref (adE E 0)), (0, .ref (ea E 9))]) rfl ?_
        refine J_iconst C dL_law_61 ?_
        refine J_istore C dL_law_62 (by decide) (lv' := [(7, .int (jI 0)), (6, .int (jI 0)), (5, .int (jI 0)), (4, .int (jI 1)), (3, .int (jI v35)), (2, .int (jI x2_44)), (1, .ref (adE E 0)), (0, .ref (ea E 9))]) rfl ?_
        replace h := h (fun (x4_64 : Int) (x5_64 : Int) (x6_64 : Int) (x7_64 : Int) (sL64 : Sg) => rgI x4_64 → rgI x5_64 → rgI x6_64 → rgI x7_64 → gN sL64 = gN s → JQ F E QF (293 + 1 * Int.toNat x7_64) (1971 + 7 * Int.toNat x7_64) sL64 64 [(0, .ref (ea E 9)), (1, .ref (adE E 0)), (2, .int (jI x2_44)), (3, .int (jI v35)), (4, .int (jI x4_64)), (5, .int (jI x5_64)), (6, .int (jI x6_64)), (7, .int (jI x7_64))] []) (by
          intro x4_64 x5_64 x6_64 x7_64 sL64 h g4_64 g5_64 g6_64 g7_64 nL64
          have j134 : ∀ (x4 : Int) (x5 : Int) (x6 : Int) (x7 : Int) (sj : Sg), wj_L_law_134 (fun (x4_64 : Int) (x5_64 : Int) (x6_64 : Int) (x7_64 : Int) (sL64 : Sg) => rgI x4_64 → rgI x5_64 → rgI x6_64 → rgI x7_64 → gN sL64 = gN s → JQ F E QF (293 + 1 * Int.toNat x7_64) (1971 + 7 * Int.toNat x7_64) sL64 64 [(0, .ref (ea E 9)), (1, .ref (adE E 0)), (2, .int (jI x2_44)), (3, .int (jI v35)), (4, .int (jI x4_64)), (5, .int (jI x5_64)), (6, .int (jI x6_64)), (7, .int (jI x7_64))] []) sl sx x2_44 v35 x4 x5 x6 x7 sj Q → rgI x4 → rgI x5 → rgI x6 → rgI x7 → gN sj = gN s → JQ F E QF (293 + 1 * Int.toNat x7 + 1) (1971 + 7 * Int.toNat x7 + 7) sj 134 [(0, .ref (ea E 9)), (1, .ref (adE E 0)), (2, .int (jI x2_44)), (3, .int (jI v35)), (4, .int (jI x4)), (5, .int (jI x5)), (6, .int (jI x6)), (7, .int (jI x7))] [] := by
            intro x4 x5 x6 x7 sj h g4 g5 g6 g7 nj
            refine J_iinc C dL_law_134 7 rfl (by decide) (lv' := [(7, .int (jI (x7 + 1))), (0, .ref (ea E 9)), (1, .ref (adE E 0)), (2, .int (jI x2_44)), (3, .int (jI v35)), (4, .int (jI x4)), (5, .int (jI x5)), (6, .int (jI x6))]) rfl ?_
            refine J_goto C (tgt := 64) dL_law_137 (by decide) ?_
            obtain ⟨g90, w91, w92, h⟩ := h
            refine JQ.widen (c1 := (293 + 1 * Int.toNat (x7 + 1))) (s1 := (1971 + 7 * Int.toNat (x7 + 1))) (by omega) (by omega) ?_
            exact J_sub [1, 2, 3, 4, 5, 6, 7, 0] rfl (h g4 g5 g6 g90 nj)
          have j131 : ∀ (x4 : Int) (x6 : Int) (x7 : Int) (t0_131 : Int) (t1_131 : Int) (sj : Sg), wj_L_law_131 (fun (x4_64 : Int) (x5_64 : Int) (x6_64 : Int) (x7_64 : Int) (sL64 : Sg) => rgI x4_64 → rgI x5_64 → rgI x6_64 → rgI x7_64 → gN sL64 = gN s → JQ F E QF (293 + 1 * Int.toNat x7_64) (1971 + 7 * Int.toNat x7_64) sL64 64 [(0, .ref (ea E 9)), (1, .ref (adE E 0)), (2, .int (jI x2_44)), (3, .int (jI v35)), (4, .int (jI x4_64)), (5, .int (jI x5_64)), (6, .int (jI x6_64)), (7, .int (jI x7_64))] []) sl sx x2_44 v35 x4 x6 x7 t0_131 t1_131 sj Q → rgI x4 → rgI x6 → rgI x7 → rgI t0_131 → rgI t1_131 → gN sj = gN s → JQ F E QF (293 + 1 * Int.toNat x7 + 1) (1971 + 7 * Int.toNat x7 + 7) sj 131 [(0, .ref (ea E 9)), (1, .ref (adE E 0)), (2, .int (jI x2_44)), (3, .int (jI v35)), (4, .int (jI x4)), (6, .int (jI x6)), (7, .int (jI x7))] [.int (jI t0_131), .int (jI t1_131)] := by
            intro x4 x6 x7 t0_131 t1_131 sj h g4 g6 g7 gt0_131 gt1_131 nj
            refine J_iadd C dL_law_131 ?_
            obtain ⟨x5_132, e109⟩ : ∃ v : Int, v = (t1_131 + t0_131) := ⟨_, rfl⟩
            obtain ⟨g5_132, h⟩ := h x5_132 e109
            refine J_top e109 ?_
            refine J_istore C dL_law_132 (by decide) (lv' := [(5, .int (jI x5_132)), (0, .ref (ea E 9)), (1, .ref (adE E 0)), (2, .int (jI x2_44)), (3, .int (jI v35)), (4, .int (jI x4)), (6, .int (jI x6)), (7, .int (jI x7))]) rfl ?_
            exact J_sub [1, 2, 3, 4, 5, 0, 6, 7] rfl (j134 _ _ _ _ _ h g4 g5_132 g6 g7 nj)
          have j107 : ∀ (x5 : Int) (x7 : Int) (t0_107 : Int) (sj : Sg), wj_L_law_107 (fun (x4_64 : Int) (x5_64 : Int) (x6_64 : Int) (x7_64 : Int) (sL64 : Sg) => rgI x4_64 → rgI x5_64 → rgI x6_64 → rgI x7_64 → gN sL64 = gN s → JQ F E QF (293 + 1 * Int.toNat x7_64) (1971 + 7 * Int.toNat x7_64) sL64 64 [(0, .ref (ea E 9)), (1, .ref (adE E 0)), (2, .int (jI x2_44)), (3, .int (jI v35)), (4, .int (jI x4_64)), (5, .int (jI x5_64)), (6, .int (jI x6_64)), (7, .int (jI x7_64))] []) sl sx x2_44 v35 x5 x7 t0_107 sj Q → rgI x5 → rgI x7 → rgI t0_107 → gN sj = gN s → JQ F E QF (293 + 1 * Int.toNat x7) (1971 + 7 * Int.toNat x7) sj 107 [(0, .ref (ea E 9)), (1, .ref (adE E 0)), (2, .int (jI x2_44)), (3, .int (jI v35)), (5, .int (jI x5)), (7, .int (jI x7))] [.int (jI t0_107)] := by
            intro x5 x7 t0_107 sj h g5 g7 gt0_107 nj
            refine J_istore C dL_law_107 (by decide) (lv' := [(6, .int (jI t0_107)), (0, .ref (ea E 9)), (1, .ref (adE E 0)), (2, .int (jI x2_44)), (3, .int (jI v35)), (5, .int (jI x5)), (7, .int (jI x7))]) rfl ?_
            refine J_aload_n C dL_law_109 rfl 2 rfl ?_
            refine J_iconst C dL_law_110 ?_
            refine J_iload C dL_law_111 6 rfl ?_
            refine J_ishl C dL_law_113 ?_
            obtain ⟨w102, w103, h⟩ := h
            refine J_SG C (fun a ha => hAF a (adA_le (Nat.le_of_eq (nj).symm) ha)) (ct_L_step hE hs (rg_shl _ _) h) ck_L_step wm_L_108 wst_L_step ⟨rfl, rfl⟩ (by decide) ⟨by show _ ≤ 758913; omega, by show _ ≤ 6825510; omega⟩ (As := [.ref (adE E 0), .int (jI (jShl 1 x7))]) (rest := []) rfl rfl (Nat.le_of_ble_eq_true rfl) dL_law_114 (J_kZ (fun v104 s105 g106 h n107 => ?_))
            have n108 : gN s105 = gN s := n107.trans (nj)
            refine J_istore C dL_law_117 (by decide) (lv' := [(4, .int (jI v104)), (6, .int (jI t0_107)), (0, .ref (ea E 9)), (1, .ref (adE E 0)), (2, .int (jI x2_44)), (3, .int (jI v35)), (5, .int (jI x5)), (7, .int (jI x7))]) rfl ?_
            refine J_iload C dL_law_119 6 rfl ?_
            refine J_iload C dL_law_121 1 rfl ?_
            refine J_if_eq C gt0_107 (tgt := 130) dL_law_123 (by decide) (fun q110 => ?_) (fun q110 => ?_)
            · replace h := h.1 q110
              refine J_iconst C dL_law_130 ?_
              exact J_sub [2, 3, 4, 5, 0, 1, 7] rfl (j131 _ _ _ _ _ _ h (rg_z g106) gt0_107 g7 (rgN 1 (by decide)) g5 n108)
            · replace h := h.2 q110
              refine J_iconst C dL_law_126 ?_
              refine J_goto C (tgt := 131) dL_law_127 (by decide) ?_
              exact J_sub [2, 3, 4, 5, 0, 1, 7] rfl (j131 _ _ _ _ _ _ h (rg_z g106) gt0_107 g7 (rgN 0 (by decide)) g5 n108)
          refine J_iload C dL_law_64 7 rfl ?_
          refine J_iconst C dL_law_66 ?_
          refine J_icmp_ge C g7_64 (rgN 5 (by decide)) (tgt := 140) dL_law_67 (by decide) (fun q115 => ?_) (fun q115 => ?_)
          · replace h := h.1 q115
            obtain ⟨w84, w85, h⟩ := h
            refine JQ.widen (c1 := 298) (s1 := 2006) (by omega) (by omega) ?_
            exact J_sub [0, 1, 3, 4, 5, 6] rfl (j140 _ _ _ _ _ h g37 g4_64 g5_64 g6_64 nL64)
          · replace h := h.2 q115
            refine J_iload C dL_law_70 4 rfl ?_
            refine J_if_eq C g4_64 (tgt := 140) dL_law_72 (by decide) (fun q114 => ?_) (fun q114 => ?_)
            · replace h := h.1 q114
              obtain ⟨w86, w87, h⟩ := h
              refine JQ.widen (c1 := 298) (s1 := 2006) (by omega) (by omega) ?_
              exact J_sub [0, 1, 3, 4, 5, 6] rfl (j140 _ _ _ _ _ h g37 g4_64 g5_64 g6_64 nL64)
            · replace h := h.2 q114
              refine J_iload C dL_law_75 6 rfl ?_
              refine J_if_ne C g6_64 (tgt := 140) dL_law_77 (by decide) (fun q113 => ?_) (fun q113 => ?_)
              · replace h := h.2 q113
                obtain ⟨w88, w89, h⟩ := h
                refine JQ.widen (c1 := 298) (s1 := 2006) (by omega) (by omega) ?_
                exact J_sub [0, 1, 3, 4, 5, 6] rfl (j140 _ _ _ _ _ h g37 g4_64 g5_64 g6_64 nL64)
              · replace h := h.1 q113
                refine J_iload_n C dL_law_80 rfl 2 rfl ?_
                refine J_iload C dL_law_81 7 rfl ?_
                refine J_ishr C dL_law_83 ?_
                refine J_iconst C dL_law_84 ?_
                refine J_iand C dL_law_85 ?_
                refine J_iconst C dL_law_86 ?_
                refine J_icmp_ne C (rg_and _ _) (rgN 1 (by decide)) (tgt := 134) dL_law_87 (by decide) (fun q112 => ?_) (fun q112 => ?_)
                · replace h := h.2 q112
                  obtain ⟨w93, w94, h⟩ := h
                  refine JQ.widen (c1 := (293 + 1 * Int.toNat x7_64 + 1)) (s1 := (1971 + 7 * Int.toNat x7_64 + 7)) (by omega) (by omega) ?_
                  exact J_sub [0, 1, 2, 3, 4, 5, 6, 7] rfl (j134 _ _ _ _ _ h g4_64 g5_64 g6_64 g7_64 nL64)
                · replace h := h.1 q112
                  refine J_aload_n C dL_law_90 rfl 1 rfl ?_
                  refine J_iconst C dL_law_91 ?_
                  refine J_iload C dL_law_92 7 rfl ?_
                  refine J_ishl C dL_law_94 ?_
                  refine J_iconst C dL_law_95 ?_
                  obtain ⟨w95, w96, h⟩ := h
                  refine J_V C (ct_X9_ifConform hs (rg_shl _ _) (rgN 0 (by decide)) h) ck_X9_ifConform wm_L_88 win_X9_ifConform wsel_X9_ifConform (dmC hs kc0 (by decide)) (clE_k E sL64 kc0) rfl ⟨rfl, rfl⟩ (by decide) ⟨by show _ ≤ 758913; omega, by show _ ≤ 6825510; omega⟩ (As := [.int (jI (jShl 1 x7_64)), .int (jI 0)]) (rest := []) rfl rfl (Nat.le_of_ble_eq_true rfl) dL_law_96 (J_kI (fun v97 s98 g99 h n100 => ?_))
                  have n101 : gN s98 = gN s := n100.trans (nL64)
                  refine J_if_ge C g99 (tgt := 106) dL_law_99 (by decide) (fun q111 => ?_) (fun q111 => ?_)
                  · replace h := h.1 q111
                    refine J_iconst C dL_law_106 ?_
                    exact J_sub [0, 1, 2, 3, 5, 7] rfl (j107 _ _ _ _ h g5_64 g7_64 (rgN 0 (by decide)) n101)
                  · replace h := h.2 q111
                    refine J_iconst C dL_law_102 ?_
                    refine J_goto C (tgt := 107) dL_law_103 (by decide) ?_
                    exact J_sub [0, 1, 2, 3, 5, 7] rfl (j107 _ _ _ _ h g5_64 g7_64 (rgN 1 (by decide)) n101)
        )
        obtain ⟨w116, w117, h⟩ := h
        refine JQ.widen (c1 := (293 + 1 * Int.toNat 0)) (s1 := (1971 + 7 * Int.toNat 0)) (by omega) (by omega) ?_
        exact J_sub [7, 6, 5, 4, 3, 2, 1, 0] rfl (h (rgN 1 (by decide)) (rgN 0 (by decide)) (rgN 0 (by decide)) (rgN 0 (by decide)) n39)
      · replace h := h.1 q118
        refine J_iconst C dL_law_31 ?_
        exact hret dL_law_32 (by decide) h
