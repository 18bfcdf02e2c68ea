/-! the law: contracts (printed by wip/p26/gen/emit26.py) -/
set_option maxHeartbeats 4000000 in
set_option maxRecDepth 100000 in
theorem ct_L_step {l : Launch} {E0 E : ET} (hE : E = mE E0 0 false) (hs : eS E = true) {s : Sg} {x1 : Int} (g1 : rgI x1) {Q : Int → Sg → Prop} (h : wp_L_step x1 s Q) : MetG l E yL_step cL_step 13 (some .boolean) rm_L_step s [.ref (adE E 0), .int (jI x1)] (qZ Q (gN s)) 1 7 := by
  refine MetGJ (by decide +kernel) (Nat.le_of_ble_eq_true rfl) ?_
  intro F hl C hF hA hmc hms _
  subst hl
  have hAF : ∀ a, adA E s a → fA F a := fun a ha => by rw [hA]; exact ha
  show JJ F E 0 0 s 0 [(0, .ref (adE E 0)), (1, .int (jI x1))] []
  have j143 : ∀ (x1 : Int) (x2 : Int) (x3 : Int) (x4 : Int) (x5 : Int) (t0_143 : Int) (sj : Sg), wj_L_step_143   x1 x2 x3 x4 x5 t0_143 sj Q → rgI x1 → rgI x2 → rgI x3 → rgI x4 → rgI x5 → rgI t0_143 → gN sj = gN s → JJ F E 0 0 sj 143 [(0, .ref (adE E 0)), (1, .int (jI x1)), (2, .int (jI x2)), (3, .int (jI x3)), (4, .int (jI x4)), (5, .int (jI x5))] [.int (jI t0_143)] := by
    intro x1 x2 x3 x4 x5 t0_143 sj h g1 g2 g3 g4 g5 gt0_143 nj
    refine J_istore C dL_step_143 (by decide) (lv' := [(8, .int (jI t0_143)), (0, .ref (adE E 0)), (1, .int (jI x1)), (2, .int (jI x2)), (3, .int (jI x3)), (4, .int (jI x4)), (5, .int (jI x5))]) rfl ?_
    refine J_aload_n C dL_step_145 rfl 1 rfl ?_
    refine J_bipush C dL_step_146 (by decide) ?_
    refine J_V C (ct_X9_told hs (rgN 8 (by decide)) h) ck_X9_told wm_L_47 win_X9_told wsel_X9_told (dmC hs kc0 (by decide)) (clE_k E sj kc0) rfl ⟨rfl, rfl⟩ (by decide) (by decide) (As := [.int (jI 8)]) (rest := []) rfl rfl (Nat.le_of_ble_eq_true rfl) dL_step_148 (J_pI (fun v50 g52 h => ?_))
    refine J_istore C dL_step_151 (by decide) (lv' := [(9, .int (jI v50)), (8, .int (jI t0_143)), (0, .ref (adE E 0)), (1, .int (jI x1)), (2, .int (jI x2)), (3, .int (jI x3)), (4, .int (jI x4)), (5, .int (jI x5))]) rfl ?_
    refine J_iload C dL_step_153 1 rfl ?_
    refine J_if_eq C gt0_143 (tgt := 167) dL_step_155 (by decide) (fun q143 => ?_) (fun q143 => ?_)
    · replace h := h.1 q143
      refine J_iconst C dL_step_167 ?_
      exact J_zret C (by rw [hmc]; decide) (by rw [hms]; decide) (nar_z (Or.inl rfl)) dL_step_168 (by rw [hF]; exact ⟨_, rfl, (Or.inl rfl), h, nj⟩)
    · replace h := h.2 q143
      refine J_aload_n C dL_step_158 rfl 2 rfl ?_
      refine J_iload_n C dL_step_159 rfl 3 rfl ?_
      refine J_V C (ct_X9_conform hs g1 h) ck_X9_conform wm_L_94 win_X9_conform wsel_X9_conform (dmC hs kc0 (by decide)) (clE_k E sj kc0) rfl ⟨rfl, rfl⟩ (by decide) (by decide) (As := [.int (jI x1)]) (rest := []) rfl rfl (Nat.le_of_ble_eq_true rfl) dL_step_160 (J_kI (fun v54 s55 g56 h n57 => ?_))
      have n58 : gN s55 = gN s := n57.trans (nj)
      refine J_iload_n C dL_step_163 rfl 4 rfl ?_
      refine J_icmp_eq C g56 g2 (tgt := 169) dL_step_164 (by decide) (fun q142 => ?_) (fun q142 => ?_)
      · replace h := h.1 q142
        refine J_iload_n C dL_step_169 rfl 4 rfl ?_
        refine J_if_ge C g2 (tgt := 190) dL_step_170 (by decide) (fun q141 => ?_) (fun q141 => ?_)
        · replace h := h.1 q141
          refine J_iconst C dL_step_190 ?_
          refine J_istore C dL_step_191 (by decide) (lv' := [(10, .int (jI 0)), (9, .int (jI v50)), (8, .int (jI t0_143)), (0, .ref (adE E 0)), (1, .int (jI x1)), (2, .int (jI x2)), (3, .int (jI x3)), (4, .int (jI x4)), (5, .int (jI x5))]) rfl ?_
          refine J_iconst C dL_step_193 ?_
          refine J_istore C dL_step_194 (by decide) (lv' := [(11, .int (jI 0)), (10, .int (jI 0)), (9, .int (jI v50)), (8, .int (jI t0_143)), (0, .ref (adE E 0)), (1, .int (jI x1)), (2, .int (jI x2)), (3, .int (jI x3)), (4, .int (jI x4)), (5, .int (jI x5))]) rfl ?_
          refine J_iconst C dL_step_196 ?_
          refine J_istore C dL_step_197 (by decide) (lv' := [(12, .int (jI 0)), (11, .int (jI 0)), (10, .int (jI 0)), (9, .int (jI v50)), (8, .int (jI t0_143)), (0, .ref (adE E 0)), (1, .int (jI x1)), (2, .int (jI x2)), (3, .int (jI x3)), (4, .int (jI x4)), (5, .int (jI x5))]) rfl ?_
          replace h := h (fun (x8_199 : Int) (x10_199 : Int) (x11_199 : Int) (x12_199 : Int) => rgI x8_199 → rgI x10_199 → rgI x11_199 → rgI x12_199 → JJ F E 0 0 s55 199 [(0, .ref (adE E 0)), (1, .int (jI x1)), (2, .int (jI x2)), (3, .int (jI x3)), (4, .int (jI x4)), (5, .int (jI x5)), (8, .int (jI x8_199)), (10, .int (jI x10_199)), (11, .int (jI x11_199)), (12, .int (jI x12_199))] []) (by
            intro x8_199 x10_199 x11_199 x12_199 h g8_199 g10_199 g11_199 g12_199
            have j350 : ∀ (x10 : Int) (x11 : Int) (x12 : Int) (t0_350 : Int), wj_L_step_350 (fun (x8_199 : Int) (x10_199 : Int) (x11_199 : Int) (x12_199 : Int) => rgI x8_199 → rgI x10_199 → rgI x11_199 → rgI x12_199 → JJ F E 0 0 s55 199 [(0, .ref (adE E 0)), (1, .int (jI x1)), (2, .int (jI x2)), (3, .int (jI x3)), (4, .int (jI x4)), (5, .int (jI x5)), (8, .int (jI x8_199)), (10, .int (jI x10_199)), (11, .int (jI x11_199)), (12, .int (jI x12_199))] []) x1 x2 x3 x4 x5 x10 x11 x12 t0_350 s55 Q → rgI x10 → rgI x11 → rgI x12 → rgI t0_350 → JJ F E 0 0 s55 350 [(0, .ref (adE E 0)), (1, .int (jI x1)), (2, .int (jI x2)), (3, .int (jI x3)), (4, .int (jI x4)), (5, .int (jI x5)), (10, .int (jI x10)), (11, .int (jI x11)), (12, .int (jI x12))] [.int (jI t0_350)] := by
              intro x10 x11 x12 t0_350 h g10 g11 g12 gt0_350
              refine J_istore C dL_step_350 (by decide) (lv' := [(8, .int (jI t0_350)), (0, .ref (adE E 0)), (1, .int (jI x1)), (2, .int (jI x2)), (3, .int (jI x3)), (4, .int (jI x4)), (5, .int (jI x5)), (10, .int (jI x10)), (11, .int (jI x11)), (12, .int (jI x12))]) rfl ?_
              refine J_iinc C dL_step_352 9 rfl (by decide) (lv' := [(12, .int (jI (x12 + 1))), (8, .int (jI t0_350)), (0, .ref (adE E 0)), (1, .int (jI x1)), (2, .int (jI x2)), (3, .int (jI x3)), (4, .int (jI x4)), (5, .int (jI x5)), (10, .int (jI x10)), (11, .int (jI x11))]) rfl ?_
              refine J_goto C (tgt := 199) dL_step_355 (by decide) ?_
              obtain ⟨g91, h⟩ := h
              exact J_sub [2, 3, 4, 5, 6, 7, 1, 8, 9, 0] rfl (h gt0_350 g10 g11 g91)
            have j349 : ∀ (x10 : Int) (x11 : Int) (x12 : Int), wj_L_step_349 (fun (x8_199 : Int) (x10_199 : Int) (x11_199 : Int) (x12_199 : Int) => rgI x8_199 → rgI x10_199 → rgI x11_199 → rgI x12_199 → JJ F E 0 0 s55 199 [(0, .ref (adE E 0)), (1, .int (jI x1)), (2, .int (jI x2)), (3, .int (jI x3)), (4, .int (jI x4)), (5, .int (jI x5)), (8, .int (jI x8_199)), (10, .int (jI x10_199)), (11, .int (jI x11_199)), (12, .int (jI x12_199))] []) x1 x2 x3 x4 x5 x10 x11 x12 s55 Q → rgI x10 → rgI x11 → rgI x12 → JJ F E 0 0 s55 349 [(0, .ref (adE E 0)), (1, .int (jI x1)), (2, .int (jI x2)), (3, .int (jI x3)), (4, .int (jI x4)), (5, .int (jI x5)), (10, .int (jI x10)), (11, .int (jI x11)), (12, .int (jI x12))] [] := by
              intro x10 x11 x12 h g10 g11 g12
              refine J_iconst C dL_step_349 ?_
              exact J_sub [0, 1, 2, 3, 4, 5, 6, 7, 8] rfl (j350 _ _ _ _ h g10 g11 g12 (rgN 0 (by decide)))
            have j345 : ∀ (x10 : Int) (x11 : Int) (x12 : Int), wj_L_step_345 (fun (x8_199 : Int) (x10_199 : Int) (x11_199 : Int) (x12_199 : Int) => rgI x8_199 → rgI x10_199 → rgI x11_199 → rgI x12_199 → JJ F E 0 0 s55 199 [(0, .ref (adE E 0)), (1, .int (jI x1)), (2, .int (jI x2)), (3, .int (jI x3)), (4, .int (jI x4)), (5, .int (jI x5)), (8, .int (jI x8_199)), (10, .int (jI x10_199)), (11, .int (jI x11_199)), (12, .int (jI x12_199))] []) x1 x2 x3 x4 x5 x10 x11 x12 s55 Q → rgI x10 → rgI x11 → rgI x12 → JJ F E 0 0 s55 345 [(0, .ref (adE E 0)), (1, .int (jI x1)), (2, .int (jI x2)), (3, .int (jI x3)), (4, .int (jI x4)), (5, .int (jI x5)), (10, .int (jI x10)), (11, .int (jI x11)), (12, .int (jI x12))] [] := by
              intro x10 x11 x12 h g10 g11 g12
              refine J_iconst C dL_step_345 ?_
              refine J_goto C (tgt := 350) dL_step_346 (by decide) ?_
              exact J_sub [0, 1, 2, 3, 4, 5, 6, 7, 8] rfl (j350 _ _ _ _ h g10 g11 g12 (rgN 1 (by decide)))
            have j301 : ∀ (x10 : Int) (x11 : Int) (x12 : Int) (t0_301 : Int), wj_L_step_301 (fun (x8_199 : Int) (x10_199 : Int) (x11_199 : Int) (x12_199 : Int) => rgI x8_199 → rgI x10_199 → rgI x11_199 → rgI x12_199 → JJ F E 0 0 s55 199 [(0, .ref (adE E 0)), (1, .int (jI x1)), (2, .int (jI x2)), (3, .int (jI x3)), (4, .int (jI x4)), (5, .int (jI x5)), (8, .int (jI x8_199)), (10, .int (jI x10_199)), (11, .int (jI x11_199)), (12, .int (jI x12_199))] []) x1 x2 x3 x4 x5 x10 x11 x12 t0_301 s55 Q → rgI x10 → rgI x11 → rgI x12 → rgI t0_301 → JJ F E 0 0 s55 301 [(0, .ref (adE E 0)), (1, .int (jI x1)), (2, .int (jI x2)), (3, .int (jI x3)), (4, .int (jI x4)), (5, .int (jI x5)), (10, .int (jI x10)), (11, .int (jI x11)), (12, .int (jI x12))] [.int (jI t0_301)] := by
              intro x10 x11 x12 t0_301 h g10 g11 g12 gt0_301
              refine J_istore C dL_step_301 (by decide) (lv' := [(8, .int (jI t0_301)), (0, .ref (adE E 0)), (1, .int (jI x1)), (2, .int (jI x2)), (3, .int (jI x3)), (4, .int (jI x4)), (5, .int (jI x5)), (10, .int (jI x10)), (11, .int (jI x11)), (12, .int (jI x12))]) rfl ?_
              refine J_iload C dL_step_303 0 rfl ?_
              refine J_if_eq C gt0_301 (tgt := 349) dL_step_305 (by decide) (fun q108 => ?_) (fun q108 => ?_)
              · replace h := h.1 q108
                exact J_sub [1, 2, 3, 4, 5, 6, 7, 8, 9] rfl (j349 _ _ _ h g10 g11 g12)
              · replace h := h.2 q108
                refine J_iload_n C dL_step_308 rfl 2 rfl ?_
                refine J_bipush C dL_step_309 (by decide) ?_
                refine J_icmp_ne C g1 (rgN 16 (by decide)) (tgt := 345) dL_step_311 (by decide) (fun q107 => ?_) (fun q107 => ?_)
                · replace h := h.2 q107
                  exact J_sub [1, 2, 3, 4, 5, 6, 7, 8, 9] rfl (j345 _ _ _ h g10 g11 g12)
                · replace h := h.1 q107
                  refine J_aload_n C dL_step_314 rfl 1 rfl ?_
                  refine J_iload C dL_step_315 9 rfl ?_
                  refine J_iconst C dL_step_317 ?_
                  refine J_V C (ct_X9_subtitle hs g12 (rgN 5 (by decide)) h) ck_X9_subtitle wm_L_33 win_X9_subtitle wsel_X9_subtitle (dmC hs kc0 (by decide)) (clE_k E s55 kc0) rfl ⟨rfl, rfl⟩ (by decide) (by decide) (As := [.int (jI x12), .int (jI 5)]) (rest := []) rfl rfl (Nat.le_of_ble_eq_true rfl) dL_step_318 (J_pI (fun v92 g94 h => ?_))
                  refine J_iconst C dL_step_321 ?_
                  refine J_iand C dL_step_322 ?_
                  refine J_if_eq C (rg_and _ _) (tgt := 345) dL_step_323 (by decide) (fun q106 => ?_) (fun q106 => ?_)
                  · replace h := h.1 q106
                    exact J_sub [1, 2, 3, 4, 5, 6, 7, 8, 9] rfl (j345 _ _ _ h g10 g11 g12)
                  · replace h := h.2 q106
                    refine J_aload_n C dL_step_326 rfl 1 rfl ?_
                    refine J_iload C dL_step_327 9 rfl ?_
                    refine J_iconst C dL_step_329 ?_
                    refine J_V C (ct_X9_subtitle hs g12 (rgN 1 (by decide)) h) ck_X9_subtitle wm_L_33 win_X9_subtitle wsel_X9_subtitle (dmC hs kc0 (by decide)) (clE_k E s55 kc0) rfl ⟨rfl, rfl⟩ (by decide) (by decide) (As := [.int (jI x12), .int (jI 1)]) (rest := []) rfl rfl (Nat.le_of_ble_eq_true rfl) dL_step_330 (J_pI (fun v96 g98 h => ?_))
                    refine J_aload_n C dL_step_333 rfl 1 rfl ?_
                    refine J_iload C dL_step_334 9 rfl ?_
                    refine J_iconst C dL_step_336 ?_
                    refine J_V C (ct_X9_subtitle hs g12 (rgN 0 (by decide)) h) ck_X9_subtitle wm_L_33 win_X9_subtitle wsel_X9_subtitle (dmC hs kc0 (by decide)) (clE_k E s55 kc0) rfl ⟨rfl, rfl⟩ (by decide) (by decide) (As := [.int (jI x12), .int (jI 0)]) (rest := [.int (jI v96)]) rfl rfl (Nat.le_of_ble_eq_true rfl) dL_step_337 (J_pI (fun v100 g102 h => ?_))
                    refine J_iconst C dL_step_340 ?_
                    refine J_iadd C dL_step_341 ?_
                    obtain ⟨g104, h⟩ := h
                    refine J_icmp_ne C g98 g104 (tgt := 349) dL_step_342 (by decide) (fun q105 => ?_) (fun q105 => ?_)
                    · replace h := h.2 q105
                      exact J_sub [1, 2, 3, 4, 5, 6, 7, 8, 9] rfl (j349 _ _ _ h g10 g11 g12)
                    · replace h := h.1 q105
                      exact J_sub [1, 2, 3, 4, 5, 6, 7, 8, 9] rfl (j345 _ _ _ h g10 g11 g12)
            have j300 : ∀ (x10 : Int) (x11 : Int) (x12 : Int), wj_L_step_300 (fun (x8_199 : Int) (x10_199 : Int) (x11_199 : Int) (x12_199 : Int) => rgI x8_199 → rgI x10_199 → rgI x11_199 → rgI x12_199 → JJ F E 0 0 s55 199 [(0, .ref (adE E 0)), (1, .int (jI x1)), (2, .int (jI x2)), (3, .int (jI x3)), (4, .int (jI x4)), (5, .int (jI x5)), (8, .int (jI x8_199)), (10, .int (jI x10_199)), (11, .int (jI x11_199)), (12, .int (jI x12_199))] []) x1 x2 x3 x4 x5 x10 x11 x12 s55 Q → rgI x10 → rgI x11 → rgI x12 → JJ F E 0 0 s55 300 [(0, .ref (adE E 0)), (1, .int (jI x1)), (2, .int (jI x2)), (3, .int (jI x3)), (4, .int (jI x4)), (5, .int (jI x5)), (10, .int (jI x10)), (11, .int (jI x11)), (12, .int (jI x12))] [] := by
              intro x10 x11 x12 h g10 g11 g12
              refine J_iconst C dL_step_300 ?_
              exact J_sub [0, 1, 2, 3, 4, 5, 6, 7, 8] rfl (j301 _ _ _ _ h g10 g11 g12 (rgN 0 (by decide)))
            have j296 : ∀ (x10 : Int) (x11 : Int) (x12 : Int), wj_L_step_296 (fun (x8_199 : Int) (x10_199 : Int) (x11_199 : Int) (x12_199 : Int) => rgI x8_199 → rgI x10_199 → rgI x11_199 → rgI x12_199 → JJ F E 0 0 s55 199 [(0, .ref (adE E 0)), (1, .int (jI x1)), (2, .int (jI x2)), (3, .int (jI x3)), (4, .int (jI x4)), (5, .int (jI x5)), (8, .int (jI x8_199)), (10, .int (jI x10_199)), (11, .int (jI x11_199)), (12, .int (jI x12_199))] []) x1 x2 x3 x4 x5 x10 x11 x12 s55 Q → rgI x10 → rgI x11 → rgI x12 → JJ F E 0 0 s55 296 [(0, .ref (adE E 0)), (1, .int (jI x1)), (2, .int (jI x2)), (3, .int (jI x3)), (4, .int (jI x4)), (5, .int (jI x5)), (10, .int (jI x10)), (11, .int (jI x11)), (12, .int (jI x12))] [] := by
              intro x10 x11 x12 h g10 g11 g12
              refine J_iconst C dL_step_296 ?_
              refine J_goto C (tgt := 301) dL_step_297 (by decide) ?_
              exact J_sub [0, 1, 2, 3, 4, 5, 6, 7, 8] rfl (j301 _ _ _ _ h g10 g11 g12 (rgN 1 (by decide)))
            have j249 : ∀ (x8 : Int) (x10 : Int) (x12 : Int) (t0_249 : Int), wj_L_step_249 (fun (x8_199 : Int) (x10_199 : Int) (x11_199 : Int) (x12_199 : Int) => rgI x8_199 → rgI x10_199 → rgI x11_199 → rgI x12_199 → JJ F E 0 0 s55 199 [(0, .ref (adE E 0)), (1, .int (jI x1)), (2, .int (jI x2)), (3, .int (jI x3)), (4, .int (jI x4)), (5, .int (jI x5)), (8, .int (jI x8_199)), (10, .int (jI x10_199)), (11, .int (jI x11_199)), (12, .int (jI x12_199))] []) x1 x2 x3 x4 x5 x8 x10 x12 t0_249 s55 Q → rgI x8 → rgI x10 → rgI x12 → rgI t0_249 → JJ F E 0 0 s55 249 [(0, .ref (adE E 0)), (1, .int (jI x1)), (2, .int (jI x2)), (3, .int (jI x3)), (4, .int (jI x4)), (5, .int (jI x5)), (8, .int (jI x8)), (10, .int (jI x10)), (12, .int (jI x12))] [.int (jI t0_249)] := by
              intro x8 x10 x12 t0_249 h g8 g10 g12 gt0_249
              refine J_istore C dL_step_249 (by decide) (lv' := [(11, .int (jI t0_249)), (0, .ref (adE E 0)), (1, .int (jI x1)), (2, .int (jI x2)), (3, .int (jI x3)), (4, .int (jI x4)), (5, .int (jI x5)), (8, .int (jI x8)), (10, .int (jI x10)), (12, .int (jI x12))]) rfl ?_
              refine J_iload C dL_step_251 7 rfl ?_
              refine J_if_eq C g8 (tgt := 300) dL_step_253 (by decide) (fun q129 => ?_) (fun q129 => ?_)
              · replace h := h.1 q129
                exact J_sub [1, 2, 3, 4, 5, 6, 8, 0, 9] rfl (j300 _ _ _ h g10 gt0_249 g12)
              · replace h := h.2 q129
                refine J_iload_n C dL_step_256 rfl 2 rfl ?_
                refine J_iconst C dL_step_257 ?_
                refine J_icmp_ne C g1 (rgN 1 (by decide)) (tgt := 296) dL_step_258 (by decide) (fun q128 => ?_) (fun q128 => ?_)
                · replace h := h.2 q128
                  exact J_sub [1, 2, 3, 4, 5, 6, 8, 0, 9] rfl (j296 _ _ _ h g10 gt0_249 g12)
                · replace h := h.1 q128
                  refine J_aload_n C dL_step_261 rfl 1 rfl ?_
                  refine J_iload C dL_step_262 9 rfl ?_
                  refine J_iconst C dL_step_264 ?_
                  refine J_V C (ct_X9_subtitle hs g12 (rgN 1 (by decide)) h) ck_X9_subtitle wm_L_33 win_X9_subtitle wsel_X9_subtitle (dmC hs kc0 (by decide)) (clE_k E s55 kc0) rfl ⟨rfl, rfl⟩ (by decide) (by decide) (As := [.int (jI x12), .int (jI 1)]) (rest := []) rfl rfl (Nat.le_of_ble_eq_true rfl) dL_step_265 (J_pI (fun v109 g111 h => ?_))
                  refine J_aload_n C dL_step_268 rfl 1 rfl ?_
                  refine J_bipush C dL_step_269 (by decide) ?_
                  refine J_V C (ct_X9_told hs (rgN 6 (by decide)) h) ck_X9_told wm_L_47 win_X9_told wsel_X9_told (dmC hs kc0 (by decide)) (clE_k E s55 kc0) rfl ⟨rfl, rfl⟩ (by decide) (by decide) (As := [.int (jI 6)]) (rest := [.int (jI v109)]) rfl rfl (Nat.le_of_ble_eq_true rfl) dL_step_271 (J_pI (fun v113 g115 h => ?_))
                  refine J_icmp_gt C g111 g115 (tgt := 300) dL_step_274 (by decide) (fun q127 => ?_) (fun q127 => ?_)
                  · replace h := h.1 q127
                    exact J_sub [1, 2, 3, 4, 5, 6, 8, 0, 9] rfl (j300 _ _ _ h g10 gt0_249 g12)
                  · replace h := h.2 q127
                    refine J_aload_n C dL_step_277 rfl 1 rfl ?_
                    refine J_iload C dL_step_278 9 rfl ?_
                    refine J_iconst C dL_step_280 ?_
                    refine J_V C (ct_X9_subtitle hs g12 (rgN 1 (by decide)) h) ck_X9_subtitle wm_L_33 win_X9_subtitle wsel_X9_subtitle (dmC hs kc0 (by decide)) (clE_k E s55 kc0) rfl ⟨rfl, rfl⟩ (by decide) (by decide) (As := [.int (jI x12), .int (jI 1)]) (rest := []) rfl rfl (Nat.le_of_ble_eq_true rfl) dL_step_281 (J_pI (fun v117 g119 h => ?_))
                    refine J_aload_n C dL_step_284 rfl 1 rfl ?_
                    refine J_iload C dL_step_285 9 rfl ?_
                    refine J_iconst C dL_step_287 ?_
                    refine J_V C (ct_X9_subtitle hs g12 (rgN 0 (by decide)) h) ck_X9_subtitle wm_L_33 win_X9_subtitle wsel_X9_subtitle (dmC hs kc0 (by decide)) (clE_k E s55 kc0) rfl ⟨rfl, rfl⟩ (by decide) (by decide) (As := [.int (jI x12), .int (jI 0)]) (rest := [.int (jI v117)]) rfl rfl (Nat.le_of_ble_eq_true rfl) dL_step_288 (J_pI (fun v121 g123 h => ?_))
                    refine J_isub C dL_step_291 ?_
                    refine J_iconst C dL_step_292 ?_
                    obtain ⟨g125, h⟩ := h
                    refine J_icmp_lt C g125 (rgN 4 (by decide)) (tgt := 300) dL_step_293 (by decide) (fun q126 => ?_) (fun q126 => ?_)
                    · replace h := h.1 q126
                      exact J_sub [1, 2, 3, 4, 5, 6, 8, 0, 9] rfl (j300 _ _ _ h g10 gt0_249 g12)
                    · replace h := h.2 q126
                      exact J_sub [1, 2, 3, 4, 5, 6, 8, 0, 9] rfl (j296 _ _ _ h g10 gt0_249 g12)
            refine J_iload C dL_step_199 9 rfl ?_
            refine J_iload_n C dL_step_201 rfl 2 rfl ?_
            refine J_icmp_ge C g12_199 g2 (tgt := 358) dL_step_202 (by decide) (fun q135 => ?_) (fun q135 => ?_)
            · replace h := h.1 q135
              refine J_iload C dL_step_358 6 rfl ?_
              refine J_if_eq C g8_199 (tgt := 407) dL_step_360 (by decide) (fun q77 => ?_) (fun q77 => ?_)
              · replace h := h.1 q77
                refine J_iconst C dL_step_407 ?_
                exact J_zret C (by rw [hmc]; decide) (by rw [hms]; decide) (nar_z (Or.inl rfl)) dL_step_408 (by rw [hF]; exact ⟨_, rfl, (Or.inl rfl), h, n58⟩)
              · replace h := h.2 q77
                refine J_aload_n C dL_step_363 rfl 0 rfl ?_
                refine J_bipush C dL_step_364 (by decide) ?_
                refine J_V C (ct_X9_told hs (rgN 8 (by decide)) h) ck_X9_told wm_L_47 win_X9_told wsel_X9_told (dmC hs kc0 (by decide)) (clE_k E s55 kc0) rfl ⟨rfl, rfl⟩ (by decide) (by decide) (As := [.int (jI 8)]) (rest := []) rfl rfl (Nat.le_of_ble_eq_true rfl) dL_step_366 (J_pI (fun v59 g61 h => ?_))
                refine J_iload_n C dL_step_369 rfl 2 rfl ?_
                refine J_icmp_ne C g61 g2 (tgt := 407) dL_step_370 (by decide) (fun q76 => ?_) (fun q76 => ?_)
                · replace h := h.2 q76
                  refine J_iconst C dL_step_407 ?_
                  exact J_zret C (by rw [hmc]; decide) (by rw [hms]; decide) (nar_z (Or.inl rfl)) dL_step_408 (by rw [hF]; exact ⟨_, rfl, (Or.inl rfl), h, n58⟩)
                · replace h := h.1 q76
                  refine J_iload C dL_step_373 7 rfl ?_
                  refine J_iload_n C dL_step_375 rfl 3 rfl ?_
                  refine J_icmp_ne C g10_199 g3 (tgt := 407) dL_step_376 (by decide) (fun q75 => ?_) (fun q75 => ?_)
                  · replace h := h.2 q75
                    refine J_iconst C dL_step_407 ?_
                    exact J_zret C (by rw [hmc]; decide) (by rw [hms]; decide) (nar_z (Or.inl rfl)) dL_step_408 (by rw [hF]; exact ⟨_, rfl, (Or.inl rfl), h, n58⟩)
                  · replace h := h.1 q75
                    refine J_iload C dL_step_379 8 rfl ?_
                    refine J_iload C dL_step_381 5 rfl ?_
                    refine J_icmp_ne C g11_199 g5 (tgt := 407) dL_step_383 (by decide) (fun q74 => ?_) (fun q74 => ?_)
                    · replace h := h.2 q74
                      refine J_iconst C dL_step_407 ?_
                      exact J_zret C (by rw [hmc]; decide) (by rw [hms]; decide) (nar_z (Or.inl rfl)) dL_step_408 (by rw [hF]; exact ⟨_, rfl, (Or.inl rfl), h, n58⟩)
                    · replace h := h.1 q74
                      refine J_aload_n C dL_step_386 rfl 0 rfl ?_
                      refine J_iconst C dL_step_387 ?_
                      refine J_V C (ct_X9_faults hs (rgN 0 (by decide)) h) ck_X9_faults wm_L_75 win_X9_faults wsel_X9_faults (dmC hs kc0 (by decide)) (clE_k E s55 kc0) rfl ⟨rfl, rfl⟩ (by decide) (by decide) (As := [.int (jI 0)]) (rest := []) rfl rfl (Nat.le_of_ble_eq_true rfl) dL_step_388 (J_pI (fun v63 g65 h => ?_))
                      refine J_iload C dL_step_391 4 rfl ?_
                      refine J_icmp_ne C g65 g4 (tgt := 407) dL_step_393 (by decide) (fun q73 => ?_) (fun q73 => ?_)
                      · replace h := h.2 q73
                        refine J_iconst C dL_step_407 ?_
                        exact J_zret C (by rw [hmc]; decide) (by rw [hms]; decide) (nar_z (Or.inl rfl)) dL_step_408 (by rw [hF]; exact ⟨_, rfl, (Or.inl rfl), h, n58⟩)
                      · replace h := h.1 q73
                        refine J_aload_n C dL_step_396 rfl 0 rfl ?_
                        refine J_SG C (fun a ha => hAF a (adA_le (Nat.le_of_eq (n58).symm) ha)) (ct_L_whole hE hs h) ck_L_whole wm_L_97 wst_L_whole ⟨rfl, rfl⟩ (by decide) (by decide) (As := [.ref (adE E 0)]) (rest := []) rfl rfl (Nat.le_of_ble_eq_true rfl) dL_step_397 (J_kZ (fun v67 s68 g69 h n70 => ?_))
                        have n71 : gN s68 = gN s := n70.trans (n58)
                        refine J_if_eq C (rg_z g69) (tgt := 407) dL_step_400 (by decide) (fun q72 => ?_) (fun q72 => ?_)
                        · replace h := h.1 q72
                          refine J_iconst C dL_step_407 ?_
                          exact J_zret C (by rw [hmc]; decide) (by rw [hms]; decide) (nar_z (Or.inl rfl)) dL_step_408 (by rw [hF]; exact ⟨_, rfl, (Or.inl rfl), h, n71⟩)
                        · replace h := h.2 q72
                          refine J_iconst C dL_step_403 ?_
                          refine J_goto C (tgt := 408) dL_step_404 (by decide) ?_
                          exact J_zret C (by rw [hmc]; decide) (by rw [hms]; decide) (nar_z (Or.inr rfl)) dL_step_408 (by rw [hF]; exact ⟨_, rfl, (Or.inr rfl), h, n71⟩)
            · replace h := h.2 q135
              refine J_iload C dL_step_205 7 rfl ?_
              refine J_aload_n C dL_step_207 rfl 0 rfl ?_
              refine J_iload C dL_step_208 9 rfl ?_
              refine J_iconst C dL_step_210 ?_
              refine J_V C (ct_X9_subtitle hs g12_199 (rgN 1 (by decide)) h) ck_X9_subtitle wm_L_33 win_X9_subtitle wsel_X9_subtitle (dmC hs kc0 (by decide)) (clE_k E s55 kc0) rfl ⟨rfl, rfl⟩ (by decide) (by decide) (As := [.int (jI x12_199), .int (jI 1)]) (rest := [.int (jI x10_199)]) rfl rfl (Nat.le_of_ble_eq_true rfl) dL_step_211 (J_pI (fun v78 g80 h => ?_))
              refine J_aload_n C dL_step_214 rfl 0 rfl ?_
              refine J_iload C dL_step_215 9 rfl ?_
              refine J_iconst C dL_step_217 ?_
              refine J_V C (ct_X9_subtitle hs g12_199 (rgN 0 (by decide)) h) ck_X9_subtitle wm_L_33 win_X9_subtitle wsel_X9_subtitle (dmC hs kc0 (by decide)) (clE_k E s55 kc0) rfl ⟨rfl, rfl⟩ (by decide) (by decide) (As := [.int (jI x12_199), .int (jI 0)]) (rest := [.int (jI v78), .int (jI x10_199)]) rfl rfl (Nat.le_of_ble_eq_true rfl) dL_step_218 (J_pI (fun v82 g84 h => ?_))
              refine J_isub C dL_step_221 ?_
              refine J_iadd C dL_step_222 ?_
              obtain ⟨x10_223, e86⟩ : ∃ v : Int, v = (x10_199 + (v78 - v82)) := ⟨_, rfl⟩
              obtain ⟨g10_223, h⟩ := h x10_223 e86
              refine J_top e86 ?_
              refine J_istore C dL_step_223 (by decide) (lv' := [(10, .int (jI x10_223)), (0, .ref (adE E 0)), (1, .int (jI x1)), (2, .int (jI x2)), (3, .int (jI x3)), (4, .int (jI x4)), (5, .int (jI x5)), (8, .int (jI x8_199)), (11, .int (jI x11_199)), (12, .int (jI x12_199))]) rfl ?_
              refine J_aload_n C dL_step_225 rfl 1 rfl ?_
              refine J_iload C dL_step_226 9 rfl ?_
              refine J_iconst C dL_step_228 ?_
              refine J_V C (ct_X9_subtitle hs g12_199 (rgN 1 (by decide)) h) ck_X9_subtitle wm_L_33 win_X9_subtitle wsel_X9_subtitle (dmC hs kc0 (by decide)) (clE_k E s55 kc0) rfl ⟨rfl, rfl⟩ (by decide) (by decide) (As := [.int (jI x12_199), .int (jI 1)]) (rest := []) rfl rfl (Nat.le_of_ble_eq_true rfl) dL_step_229 (J_pI (fun v87 g89 h => ?_))
              refine J_iload C dL_step_232 8 rfl ?_
              refine J_icmp_le C g89 g11_199 (tgt := 247) dL_step_234 (by decide) (fun q134 => ?_) (fun q134 => ?_)
              · replace h := h.1 q134
                refine J_iload C dL_step_247 8 rfl ?_
                exact J_sub [1, 2, 3, 4, 5, 6, 7, 0, 9] rfl (j249 _ _ _ _ h g8_199 g10_223 g12_199 g11_199)
              · replace h := h.2 q134
                refine J_aload_n C dL_step_237 rfl 1 rfl ?_
                refine J_iload C dL_step_238 9 rfl ?_
                refine J_iconst C dL_step_240 ?_
                refine J_V C (ct_X9_subtitle hs g12_199 (rgN 1 (by decide)) h) ck_X9_subtitle wm_L_33 win_X9_subtitle wsel_X9_subtitle (dmC hs kc0 (by decide)) (clE_k E s55 kc0) rfl ⟨rfl, rfl⟩ (by decide) (by decide) (As := [.int (jI x12_199), .int (jI 1)]) (rest := []) rfl rfl (Nat.le_of_ble_eq_true rfl) dL_step_241 (J_pI (fun v130 g132 h => ?_))
                refine J_goto C (tgt := 249) dL_step_244 (by decide) ?_
                exact J_sub [1, 2, 3, 4, 5, 6, 7, 0, 9] rfl (j249 _ _ _ _ h g8_199 g10_223 g12_199 g132)
          )
          exact J_sub [5, 6, 7, 8, 9, 10, 4, 2, 1, 0] rfl (h gt0_143 (rgN 0 (by decide)) (rgN 0 (by decide)) (rgN 0 (by decide)))
        · replace h := h.2 q141
          refine J_aload_n C dL_step_173 rfl 2 rfl ?_
          refine J_bipush C dL_step_174 (by decide) ?_
          refine J_V C (ct_X9_told hs (rgN 8 (by decide)) h) ck_X9_told wm_L_47 win_X9_told wsel_X9_told (dmC hs kc0 (by decide)) (clE_k E s55 kc0) rfl ⟨rfl, rfl⟩ (by decide) (by decide) (As := [.int (jI 8)]) (rest := []) rfl rfl (Nat.le_of_ble_eq_true rfl) dL_step_176 (J_pI (fun v136 g138 h => ?_))
          refine J_iload C dL_step_179 0 rfl ?_
          refine J_icmp_ne C g138 g52 (tgt := 188) dL_step_181 (by decide) (fun q140 => ?_) (fun q140 => ?_)
          · replace h := h.2 q140
            refine J_iconst C dL_step_188 ?_
            exact J_zret C (by rw [hmc]; decide) (by rw [hms]; decide) (nar_z (Or.inl rfl)) dL_step_189 (by rw [hF]; exact ⟨_, rfl, (Or.inl rfl), h, n58⟩)
          · replace h := h.1 q140
            refine J_iconst C dL_step_184 ?_
            refine J_goto C (tgt := 189) dL_step_185 (by decide) ?_
            exact J_zret C (by rw [hmc]; decide) (by rw [hms]; decide) (nar_z (Or.inr rfl)) dL_step_189 (by rw [hF]; exact ⟨_, rfl, (Or.inr rfl), h, n58⟩)
      · replace h := h.2 q142
        refine J_iconst C dL_step_167 ?_
        exact J_zret C (by rw [hmc]; decide) (by rw [hms]; decide) (nar_z (Or.inl rfl)) dL_step_168 (by rw [hF]; exact ⟨_, rfl, (Or.inl rfl), h, n58⟩)
  have j142 : ∀ (x1 : Int) (x2 : Int) (x3 : Int) (x4 : Int) (x5 : Int) (sj : Sg), wj_L_step_142   x1 x2 x3 x4 x5 sj Q → rgI x1 → rgI x2 → rgI x3 → rgI x4 → rgI x5 → gN sj = gN s → JJ F E 0 0 sj 142 [(0, .ref (adE E 0)), (1, .int (jI x1)), (2, .int (jI x2)), (3, .int (jI x3)), (4, .int (jI x4)), (5, .int (jI x5))] [] := by
    intro x1 x2 x3 x4 x5 sj h g1 g2 g3 g4 g5 nj
    refine J_iconst C dL_step_142 ?_
    exact J_sub [0, 1, 2, 3, 4, 5] rfl (j143 _ _ _ _ _ _ _ h g1 g2 g3 g4 g5 (rgN 0 (by decide)) nj)
  have j138 : ∀ (x1 : Int) (x2 : Int) (x3 : Int) (x4 : Int) (x5 : Int) (sj : Sg), wj_L_step_138   x1 x2 x3 x4 x5 sj Q → rgI x1 → rgI x2 → rgI x3 → rgI x4 → rgI x5 → gN sj = gN s → JJ F E 0 0 sj 138 [(0, .ref (adE E 0)), (1, .int (jI x1)), (2, .int (jI x2)), (3, .int (jI x3)), (4, .int (jI x4)), (5, .int (jI x5))] [] := by
    intro x1 x2 x3 x4 x5 sj h g1 g2 g3 g4 g5 nj
    refine J_iconst C dL_step_138 ?_
    refine J_goto C (tgt := 143) dL_step_139 (by decide) ?_
    exact J_sub [0, 1, 2, 3, 4, 5] rfl (j143 _ _ _ _ _ _ _ h g1 g2 g3 g4 g5 (rgN 1 (by decide)) nj)
  have j135 : ∀ (x1 : Int) (x2 : Int) (x3 : Int) (x4 : Int) (x5 : Int) (t0_135 : Int) (t1_135 : Int) (sj : Sg), wj_L_step_135   x1 x2 x3 x4 x5 t0_135 t1_135 sj Q → rgI x1 → rgI x2 → rgI x3 → rgI x4 → rgI x5 → rgI t0_135 → rgI t1_135 → gN sj = gN s → JJ F E 0 0 sj 135 [(0, .ref (adE E 0)), (1, .int (jI x1)), (2, .int (jI x2)), (3, .int (jI x3)), (4, .int (jI x4)), (5, .int (jI x5))] [.int (jI t0_135), .int (jI t1_135)] := by
    intro x1 x2 x3 x4 x5 t0_135 t1_135 sj h g1 g2 g3 g4 g5 gt0_135 gt1_135 nj
    refine J_icmp_ne C gt1_135 gt0_135 (tgt := 142) dL_step_135 (by decide) (fun q144 => ?_) (fun q144 => ?_)
    · replace h := h.2 q144
      exact J_sub [0, 1, 2, 3, 4, 5] rfl (j142 _ _ _ _ _ _ h g1 g2 g3 g4 g5 nj)
    · replace h := h.1 q144
      exact J_sub [0, 1, 2, 3, 4, 5] rfl (j138 _ _ _ _ _ _ h g1 g2 g3 g4 g5 nj)
  have j112 : ∀ (x1 : Int) (x2 : Int) (x3 : Int) (x4 : Int) (x5 : Int) (x7 : Int) (t0_112 : Int) (t1_112 : Int) (sj : Sg), wj_L_step_112   x1 x2 x3 x4 x5 x7 t0_112 t1_112 sj Q → rgI x1 → rgI x2 → rgI x3 → rgI x4 → rgI x5 → rgI x7 → rgI t0_112 → rgI t1_112 → gN sj = gN s → JJ F E 0 0 sj 112 [(0, .ref (adE E 0)), (1, .int (jI x1)), (2, .int (jI x2)), (3, .int (jI x3)), (4, .int (jI x4)), (5, .int (jI x5)), (7, .int (jI x7))] [.int (jI t0_112), .int (jI t1_112)] := by
    intro x1 x2 x3 x4 x5 x7 t0_112 t1_112 sj h g1 g2 g3 g4 g5 g7 gt0_112 gt1_112 nj
    refine J_icmp_ne C gt1_112 gt0_112 (tgt := 142) dL_step_112 (by decide) (fun q147 => ?_) (fun q147 => ?_)
    · replace h := h.2 q147
      exact J_sub [0, 1, 2, 3, 4, 5] rfl (j142 _ _ _ _ _ _ h g1 g2 g3 g4 g5 nj)
    · replace h := h.1 q147
      refine J_iload_n C dL_step_115 rfl 1 rfl ?_
      refine J_iconst C dL_step_116 ?_
      refine J_icmp_ne C g1 (rgN 1 (by decide)) (tgt := 138) dL_step_117 (by decide) (fun q146 => ?_) (fun q146 => ?_)
      · replace h := h.2 q146
        exact J_sub [0, 1, 2, 3, 4, 5] rfl (j138 _ _ _ _ _ _ h g1 g2 g3 g4 g5 nj)
      · replace h := h.1 q146
        refine J_iload_n C dL_step_120 rfl 2 rfl ?_
        refine J_iload C dL_step_121 6 rfl ?_
        refine J_bipush C dL_step_123 (by decide) ?_
        refine J_icmp_le C g7 (rgN 16 (by decide)) (tgt := 133) dL_step_125 (by decide) (fun q145 => ?_) (fun q145 => ?_)
        · replace h := h.1 q145
          refine J_iload C dL_step_133 6 rfl ?_
          exact J_sub [0, 1, 2, 3, 4, 5] rfl (j135 _ _ _ _ _ _ _ _ h g1 g2 g3 g4 g5 g7 g2 nj)
        · replace h := h.2 q145
          refine J_bipush C dL_step_128 (by decide) ?_
          refine J_goto C (tgt := 135) dL_step_130 (by decide) ?_
          exact J_sub [0, 1, 2, 3, 4, 5] rfl (j135 _ _ _ _ _ _ _ _ h g1 g2 g3 g4 g5 (rgN (-3) (by decide)) g2 nj)
  refine J_aload_n C dL_step_0 rfl 0 rfl ?_
  refine J_iload_n C dL_step_1 rfl 1 rfl ?_
  refine J_iconst C dL_step_2 ?_
  refine J_V C (ct_X9_ifConform hs g1 (rgN 0 (by decide)) h) ck_X9_ifConform wm_L_88 win_X9_ifConform wsel_X9_ifConform (dmC hs kc0 (by decide)) (clE_k E s kc0) rfl ⟨rfl, rfl⟩ (by decide) (by decide) (As := [.int (jI x1), .int (jI 0)]) (rest := []) rfl rfl (Nat.le_of_ble_eq_true rfl) dL_step_3 (J_kI (fun v21 s22 g23 h n24 => ?_))
  have n25 : gN s22 = gN s := n24
  refine J_istore_n C dL_step_6 rfl (by decide) (lv' := [(2, .int (jI v21)), (0, .ref (adE E 0)), (1, .int (jI x1))]) rfl ?_
  refine J_aload_n C dL_step_7 rfl 1 rfl ?_
  refine J_iload_n C dL_step_8 rfl 2 rfl ?_
  refine J_iconst C dL_step_9 ?_
  refine J_V C (ct_X9_ifConform hs g1 (rgN 1 (by decide)) h) ck_X9_ifConform wm_L_88 win_X9_ifConform wsel_X9_ifConform (dmC hs kc0 (by decide)) (clE_k E s22 kc0) rfl ⟨rfl, rfl⟩ (by decide) (by decide) (As := [.int (jI x1), .int (jI 1)]) (rest := []) rfl rfl (Nat.le_of_ble_eq_true rfl) dL_step_10 (J_kI (fun v26 s27 g28 h n29 => ?_))
  have n30 : gN s27 = gN s := n29.trans (n25)
  refine J_istore_n C dL_step_13 rfl (by decide) (lv' := [(3, .int (jI v26)), (2, .int (jI v21)), (0, .ref (adE E 0)), (1, .int (jI x1))]) rfl ?_
  refine J_aload_n C dL_step_14 rfl 2 rfl ?_
  refine J_iload_n C dL_step_15 rfl 3 rfl ?_
  refine J_iconst C dL_step_16 ?_
  refine J_V C (ct_X9_ifConform hs g1 (rgN 2 (by decide)) h) ck_X9_ifConform wm_L_88 win_X9_ifConform wsel_X9_ifConform (dmC hs kc0 (by decide)) (clE_k E s27 kc0) rfl ⟨rfl, rfl⟩ (by decide) (by decide) (As := [.int (jI x1), .int (jI 2)]) (rest := []) rfl rfl (Nat.le_of_ble_eq_true rfl) dL_step_17 (J_kI (fun v31 s32 g33 h n34 => ?_))
  have n35 : gN s32 = gN s := n34.trans (n30)
  refine J_istore C dL_step_20 (by decide) (lv' := [(4, .int (jI v31)), (3, .int (jI v26)), (2, .int (jI v21)), (0, .ref (adE E 0)), (1, .int (jI x1))]) rfl ?_
  refine J_aload_n C dL_step_22 rfl 3 rfl ?_
  refine J_iload_n C dL_step_23 rfl 4 rfl ?_
  refine J_iconst C dL_step_24 ?_
  refine J_V C (ct_X9_ifConform hs g1 (rgN 3 (by decide)) h) ck_X9_ifConform wm_L_88 win_X9_ifConform wsel_X9_ifConform (dmC hs kc0 (by decide)) (clE_k E s32 kc0) rfl ⟨rfl, rfl⟩ (by decide) (by decide) (As := [.int (jI x1), .int (jI 3)]) (rest := []) rfl rfl (Nat.le_of_ble_eq_true rfl) dL_step_25 (J_kI (fun v36 s37 g38 h n39 => ?_))
  have n40 : gN s37 = gN s := n39.trans (n35)
  refine J_istore C dL_step_28 (by decide) (lv' := [(5, .int (jI v36)), (4, .int (jI v31)), (3, .int (jI v26)), (2, .int (jI v21)), (0, .ref (adE E 0)), (1, .int (jI x1))]) rfl ?_
  refine J_iconst C dL_step_30 ?_
  refine J_istore C dL_step_31 (by decide) (lv' := [(6, .int (jI 0)), (5, .int (jI v36)), (4, .int (jI v31)), (3, .int (jI v26)), (2, .int (jI v21)), (0, .ref (adE E 0)), (1, .int (jI x1))]) rfl ?_
  refine J_iconst C dL_step_33 ?_
  refine J_istore C dL_step_34 (by decide) (lv' := [(7, .int (jI 0)), (6, .int (jI 0)), (5, .int (jI v36)), (4, .int (jI v31)), (3, .int (jI v26)), (2, .int (jI v21)), (0, .ref (adE E 0)), (1, .int (jI x1))]) rfl ?_
  refine J_iconst C dL_step_36 ?_
  refine J_istore C dL_step_37 (by decide) (lv' := [(8, .int (jI 0)), (7, .int (jI 0)), (6, .int (jI 0)), (5, .int (jI v36)), (4, .int (jI v31)), (3, .int (jI v26)), (2, .int (jI v21)), (0, .ref (adE E 0)), (1, .int (jI x1))]) rfl ?_
  replace h := h (fun (x6_39 : Int) (x7_39 : Int) (x8_39 : Int) (sL39 : Sg) => rgI x6_39 → rgI x7_39 → rgI x8_39 → gN sL39 = gN s → JJ F E 0 0 sL39 39 [(0, .ref (adE E 0)), (1, .int (jI x1)), (2, .int (jI v21)), (3, .int (jI v26)), (4, .int (jI v31)), (5, .int (jI v36)), (6, .int (jI x6_39)), (7, .int (jI x7_39)), (8, .int (jI x8_39))] []) (by
    intro x6_39 x7_39 x8_39 sL39 h g6_39 g7_39 g8_39 nL39
    have j66 : ∀ (x7 : Int) (x8 : Int) (t0_66 : Int) (t1_66 : Int) (sj : Sg), wj_L_step_66 (fun (x6_39 : Int) (x7_39 : Int) (x8_39 : Int) (sL39 : Sg) => rgI x6_39 → rgI x7_39 → rgI x8_39 → gN sL39 = gN s → JJ F E 0 0 sL39 39 [(0, .ref (adE E 0)), (1, .int (jI x1)), (2, .int (jI v21)), (3, .int (jI v26)), (4, .int (jI v31)), (5, .int (jI v36)), (6, .int (jI x6_39)), (7, .int (jI x7_39)), (8, .int (jI x8_39))] []) x1 v21 v26 v31 v36 x7 x8 t0_66 t1_66 sj Q → rgI x7 → rgI x8 → rgI t0_66 → rgI t1_66 → gN sj = gN s → JJ F E 0 0 sj 66 [(0, .ref (adE E 0)), (1, .int (jI x1)), (2, .int (jI v21)), (3, .int (jI v26)), (4, .int (jI v31)), (5, .int (jI v36)), (7, .int (jI x7)), (8, .int (jI x8))] [.int (jI t0_66), .int (jI t1_66)] := by
      intro x7 x8 t0_66 t1_66 sj h g7 g8 gt0_66 gt1_66 nj
      refine J_iadd C dL_step_66 ?_
      obtain ⟨x6_67, e155⟩ : ∃ v : Int, v = (t1_66 + t0_66) := ⟨_, rfl⟩
      obtain ⟨g6_67, h⟩ := h x6_67 e155
      refine J_top e155 ?_
      refine J_istore C dL_step_67 (by decide) (lv' := [(6, .int (jI x6_67)), (0, .ref (adE E 0)), (1, .int (jI x1)), (2, .int (jI v21)), (3, .int (jI v26)), (4, .int (jI v31)), (5, .int (jI v36)), (7, .int (jI x7)), (8, .int (jI x8))]) rfl ?_
      refine J_iload C dL_step_69 7 rfl ?_
      refine J_aload_n C dL_step_71 rfl 1 rfl ?_
      refine J_iload C dL_step_72 8 rfl ?_
      refine J_V C (ct_X9_stretches hs g8 h) ck_X9_stretches wm_L_91 win_X9_stretches wsel_X9_stretches (dmC hs kc0 (by decide)) (clE_k E sj kc0) rfl ⟨rfl, rfl⟩ (by decide) (by decide) (As := [.int (jI x8)]) (rest := [.int (jI x7)]) rfl rfl (Nat.le_of_ble_eq_true rfl) dL_step_74 (J_kI (fun v156 s157 g158 h n159 => ?_))
      have n160 : gN s157 = gN s := n159.trans (nj)
      refine J_iadd C dL_step_77 ?_
      obtain ⟨x7_78, e161⟩ : ∃ v : Int, v = (x7 + v156) := ⟨_, rfl⟩
      obtain ⟨g7_78, h⟩ := h x7_78 e161
      refine J_top e161 ?_
      refine J_istore C dL_step_78 (by decide) (lv' := [(7, .int (jI x7_78)), (6, .int (jI x6_67)), (0, .ref (adE E 0)), (1, .int (jI x1)), (2, .int (jI v21)), (3, .int (jI v26)), (4, .int (jI v31)), (5, .int (jI v36)), (8, .int (jI x8))]) rfl ?_
      refine J_iinc C dL_step_80 8 rfl (by decide) (lv' := [(8, .int (jI (x8 + 1))), (7, .int (jI x7_78)), (6, .int (jI x6_67)), (0, .ref (adE E 0)), (1, .int (jI x1)), (2, .int (jI v21)), (3, .int (jI v26)), (4, .int (jI v31)), (5, .int (jI v36))]) rfl ?_
      refine J_goto C (tgt := 39) dL_step_83 (by decide) ?_
      obtain ⟨g162, h⟩ := h
      exact J_sub [3, 4, 5, 6, 7, 8, 2, 1, 0] rfl (h g6_67 g7_78 g162 n160)
    refine J_iload C dL_step_39 8 rfl ?_
    refine J_aload_n C dL_step_41 rfl 0 rfl ?_
    refine J_bipush C dL_step_42 (by decide) ?_
    refine J_V C (ct_X9_told hs (rgN 8 (by decide)) h) ck_X9_told wm_L_47 win_X9_told wsel_X9_told (dmC hs kc0 (by decide)) (clE_k E sL39 kc0) rfl ⟨rfl, rfl⟩ (by decide) (by decide) (As := [.int (jI 8)]) (rest := [.int (jI x8_39)]) rfl rfl (Nat.le_of_ble_eq_true rfl) dL_step_44 (J_pI (fun v41 g43 h => ?_))
    refine J_icmp_ge C g8_39 g43 (tgt := 86) dL_step_47 (by decide) (fun q164 => ?_) (fun q164 => ?_)
    · replace h := h.1 q164
      refine J_aload_n C dL_step_86 rfl 0 rfl ?_
      refine J_iload_n C dL_step_87 rfl 1 rfl ?_
      refine J_iconst C dL_step_88 ?_
      refine J_V C (ct_X9_ifConform hs g1 (rgN 4 (by decide)) h) ck_X9_ifConform wm_L_88 win_X9_ifConform wsel_X9_ifConform (dmC hs kc0 (by decide)) (clE_k E sL39 kc0) rfl ⟨rfl, rfl⟩ (by decide) (by decide) (As := [.int (jI x1), .int (jI 4)]) (rest := []) rfl rfl (Nat.le_of_ble_eq_true rfl) dL_step_89 (J_kI (fun v45 s46 g47 h n48 => ?_))
      have n49 : gN s46 = gN s := n48.trans (nL39)
      refine J_iload_n C dL_step_92 rfl 2 rfl ?_
      refine J_if_ge C g23 (tgt := 101) dL_step_93 (by decide) (fun q149 => ?_) (fun q149 => ?_)
      · replace h := h.1 q149
        refine J_iload_n C dL_step_101 rfl 1 rfl ?_
        refine J_iconst C dL_step_102 ?_
        refine J_icmp_ne C g1 (rgN 1 (by decide)) (tgt := 111) dL_step_103 (by decide) (fun q148 => ?_) (fun q148 => ?_)
        · replace h := h.2 q148
          refine J_iconst C dL_step_111 ?_
          exact J_sub [0, 1, 2, 3, 4, 5, 7] rfl (j112 _ _ _ _ _ _ _ _ _ h g1 g23 g28 g33 g38 g7_39 (rgN 0 (by decide)) g47 n49)
        · replace h := h.1 q148
          refine J_iload C dL_step_106 6 rfl ?_
          refine J_goto C (tgt := 112) dL_step_108 (by decide) ?_
          exact J_sub [0, 1, 2, 3, 4, 5, 7] rfl (j112 _ _ _ _ _ _ _ _ _ h g1 g23 g28 g33 g38 g7_39 g6_39 g47 n49)
      · replace h := h.2 q149
        refine J_bipush C dL_step_96 (by decide) ?_
        refine J_goto C (tgt := 112) dL_step_98 (by decide) ?_
        exact J_sub [0, 1, 2, 3, 4, 5, 7] rfl (j112 _ _ _ _ _ _ _ _ _ h g1 g23 g28 g33 g38 g7_39 (rgN (-3) (by decide)) g47 n49)
    · replace h := h.2 q164
      refine J_iload C dL_step_50 6 rfl ?_
      refine J_aload_n C dL_step_52 rfl 0 rfl ?_
      refine J_iload C dL_step_53 8 rfl ?_
      refine J_V C (ct_X9_stretches hs g8_39 h) ck_X9_stretches wm_L_91 win_X9_stretches wsel_X9_stretches (dmC hs kc0 (by decide)) (clE_k E sL39 kc0) rfl ⟨rfl, rfl⟩ (by decide) (by decide) (As := [.int (jI x8_39)]) (rest := [.int (jI x6_39)]) rfl rfl (Nat.le_of_ble_eq_true rfl) dL_step_55 (J_kI (fun v150 s151 g152 h n153 => ?_))
      have n154 : gN s151 = gN s := n153.trans (nL39)
      refine J_if_ne C g152 (tgt := 65) dL_step_58 (by decide) (fun q163 => ?_) (fun q163 => ?_)
      · replace h := h.2 q163
        refine J_iconst C dL_step_65 ?_
        exact J_sub [0, 1, 2, 3, 4, 5, 7, 8] rfl (j66 _ _ _ _ _ h g7_39 g8_39 (rgN 0 (by decide)) g6_39 n154)
      · replace h := h.1 q163
        refine J_iconst C dL_step_61 ?_
        refine J_goto C (tgt := 66) dL_step_62 (by decide) ?_
        exact J_sub [0, 1, 2, 3, 4, 5, 7, 8] rfl (j66 _ _ _ _ _ h g7_39 g8_39 (rgN 1 (by decide)) g6_39 n154)
  )
  exact J_sub [7, 8, 6, 5, 4, 3, 2, 1, 0] rfl (h (rgN 0 (by decide)) (rgN 0 (by decide)) (rgN 0 (by decide)) n40)
