/-! the law: contracts (printed by wip/p26/gen/emit26.py) -/
set_option maxHeartbeats 4000000 in
set_option maxRecDepth 100000 in
theorem jj_L_faults {F : FT} {E0 E : ET} (hs : eS E = true) {s : Sg} {Q : Int → Sg → Prop} (C : Cx F E cL_faults RL (some .boolean) rm_L_faults 8) (hm : eb2 E + (gN s - 293) ≤ em E) (hAY : fA F (em E)) (hcv : ∀ σ H, RepE E σ H → RepE E0 σ H) (hF : fq F = qZ Q (gN s)) (hmc : fmc F = 1) (hms : fms F = 7) (h : wp_L_faults_4 s Q) : JY F E0 E 1 7 s 4 [(0, .ref (adE E 0))] [.ref (adE E 281)] := by
  have j331 : ∀ (t0_331 : Int) (sj : Sg), wj_L_faults_331   t0_331 sj Q → rgI t0_331 → gN sj = gN s → JY F E0 E 1 7 sj 331 [(0, .ref (adE E 0)), (1, .ref (adE E 281))] [.int (jI t0_331)] := by
    intro t0_331 sj h gt0_331 nj
    refine J_istore_n C dL_faults_331 rfl (by decide) (lv' := [(2, .int (jI t0_331)), (0, .ref (adE E 0)), (1, .ref (adE E 281))]) rfl ?_
    refine J_iconst C dL_faults_332 ?_
    refine J_istore_n C dL_faults_333 rfl (by decide) (lv' := [(3, .int (jI 0)), (2, .int (jI t0_331)), (0, .ref (adE E 0)), (1, .ref (adE E 281))]) rfl ?_
    replace h := h (fun (x2_334 : Int) (x3_334 : Int) => rgI x2_334 → rgI x3_334 → JY F E0 E 1 7 sj 334 [(0, .ref (adE E 0)), (1, .ref (adE E 281)), (2, .int (jI x2_334)), (3, .int (jI x3_334))] []) (by
      intro x2_334 x3_334 h g2_334 g3_334
      have j362 : ∀ (x3 : Int) (t0_362 : Int), wj_L_faults_362 (fun (x2_334 : Int) (x3_334 : Int) => rgI x2_334 → rgI x3_334 → JY F E0 E 1 7 sj 334 [(0, .ref (adE E 0)), (1, .ref (adE E 281)), (2, .int (jI x2_334)), (3, .int (jI x3_334))] [])  x3 t0_362 sj Q → rgI x3 → rgI t0_362 → JY F E0 E 1 7 sj 362 [(0, .ref (adE E 0)), (1, .ref (adE E 281)), (3, .int (jI x3))] [.int (jI t0_362)] := by
        intro x3 t0_362 h g3 gt0_362
        refine J_istore_n C dL_faults_362 rfl (by decide) (lv' := [(2, .int (jI t0_362)), (0, .ref (adE E 0)), (1, .ref (adE E 281)), (3, .int (jI x3))]) rfl ?_
        refine J_iinc C dL_faults_363 3 rfl (by decide) (lv' := [(3, .int (jI (x3 + 1))), (2, .int (jI t0_362)), (0, .ref (adE E 0)), (1, .ref (adE E 281))]) rfl ?_
        refine J_goto C (tgt := 334) dL_faults_366 (by decide) ?_
        obtain ⟨g38, h⟩ := h
        exact J_sub [2, 3, 1, 0] rfl (h gt0_362 g38)
      have j361 : ∀ (x3 : Int), wj_L_faults_361 (fun (x2_334 : Int) (x3_334 : Int) => rgI x2_334 → rgI x3_334 → JY F E0 E 1 7 sj 334 [(0, .ref (adE E 0)), (1, .ref (adE E 281)), (2, .int (jI x2_334)), (3, .int (jI x3_334))] [])  x3 sj Q → rgI x3 → JY F E0 E 1 7 sj 361 [(0, .ref (adE E 0)), (1, .ref (adE E 281)), (3, .int (jI x3))] [] := by
        intro x3 h g3
        refine J_iconst C dL_faults_361 ?_
        exact J_sub [0, 1, 2] rfl (j362 _ _ h g3 (rgN 0 (by decide)))
      refine J_iload_n C dL_faults_334 rfl 3 rfl ?_
      refine J_bipush C dL_faults_335 (by decide) ?_
      refine J_icmp_ge C g3_334 (rgN 6 (by decide)) (tgt := 369) dL_faults_337 (by decide) (fun q48 => ?_) (fun q48 => ?_)
      · replace h := h.1 q48
        refine J_iload_n C dL_faults_369 rfl 2 rfl ?_
        refine J_if_eq C g2_334 (tgt := 386) dL_faults_370 (by decide) (fun q37 => ?_) (fun q37 => ?_)
        · replace h := h.1 q37
          refine J_iconst C dL_faults_386 ?_
          exact J_zretY C hcv (by rw [hmc]; decide) (by rw [hms]; decide) (nar_z (Or.inl rfl)) dL_faults_387 (by rw [hF]; exact ⟨_, rfl, (Or.inl rfl), h, nj⟩)
        · replace h := h.2 q37
          refine J_aload_n C dL_faults_373 rfl 0 rfl ?_
          refine J_iconst C dL_faults_374 ?_
          refine J_V C (ct_X9_faults hs (rgN 3 (by decide)) h) ck_X9_faults wm_L_75 win_X9_faults wsel_X9_faults (dmC hs kc0 (by decide)) (clE_k E sj kc0) rfl ⟨rfl, rfl⟩ (by decide) (by decide) (As := [.int (jI 3)]) (rest := []) rfl rfl (Nat.le_of_ble_eq_true rfl) dL_faults_375 (J_pI (fun v32 g34 h => ?_))
          refine J_iconst C dL_faults_378 ?_
          refine J_icmp_ne C g34 (rgN (-1) (by decide)) (tgt := 386) dL_faults_379 (by decide) (fun q36 => ?_) (fun q36 => ?_)
          · replace h := h.2 q36
            refine J_iconst C dL_faults_386 ?_
            exact J_zretY C hcv (by rw [hmc]; decide) (by rw [hms]; decide) (nar_z (Or.inl rfl)) dL_faults_387 (by rw [hF]; exact ⟨_, rfl, (Or.inl rfl), h, nj⟩)
          · replace h := h.1 q36
            refine J_iconst C dL_faults_382 ?_
            refine J_goto C (tgt := 387) dL_faults_383 (by decide) ?_
            exact J_zretY C hcv (by rw [hmc]; decide) (by rw [hms]; decide) (nar_z (Or.inr rfl)) dL_faults_387 (by rw [hF]; exact ⟨_, rfl, (Or.inr rfl), h, nj⟩)
      · replace h := h.2 q48
        refine J_iload_n C dL_faults_340 rfl 2 rfl ?_
        refine J_if_eq C g2_334 (tgt := 361) dL_faults_341 (by decide) (fun q47 => ?_) (fun q47 => ?_)
        · replace h := h.1 q47
          exact J_sub [0, 1, 3] rfl (j361 _ h g3_334)
        · replace h := h.2 q47
          refine J_aload_n C dL_faults_344 rfl 0 rfl ?_
          refine J_iconst C dL_faults_345 ?_
          refine J_iload_n C dL_faults_346 rfl 3 rfl ?_
          refine J_ishl C dL_faults_347 ?_
          refine J_V C (ct_X9_faults hs (rg_shl _ _) h) ck_X9_faults wm_L_75 win_X9_faults wsel_X9_faults (dmC hs kc0 (by decide)) (clE_k E sj kc0) rfl ⟨rfl, rfl⟩ (by decide) (by decide) (As := [.int (jI (jShl 1 x3_334))]) (rest := []) rfl rfl (Nat.le_of_ble_eq_true rfl) dL_faults_348 (J_pI (fun v39 g41 h => ?_))
          refine J_aload_n C dL_faults_351 rfl 1 rfl ?_
          refine J_iload_n C dL_faults_352 rfl 3 rfl ?_
          obtain ⟨b43, b44, h⟩ := h
          refine J_iald C (dmY hs hm nj) (n := 7) (clE_k E sj kc281) (by decide) b43 b44 dL_faults_353 (fun g45 => ?_)
          refine J_icmp_ne C g41 g45 (tgt := 361) dL_faults_354 (by decide) (fun q46 => ?_) (fun q46 => ?_)
          · replace h := h.2 q46
            exact J_sub [0, 1, 3] rfl (j361 _ h g3_334)
          · replace h := h.1 q46
            refine J_iconst C dL_faults_357 ?_
            refine J_goto C (tgt := 362) dL_faults_358 (by decide) ?_
            exact J_sub [0, 1, 3] rfl (j362 _ _ h g3_334 (rgN 1 (by decide)))
    )
    exact J_sub [2, 3, 1, 0] rfl (h gt0_331 (rgN 0 (by decide)))
  refine J_astore_n C dL_faults_4 rfl (by decide) (lv' := [(1, .ref (adE E 281)), (0, .ref (adE E 0))]) rfl ?_
  refine J_iconst C dL_faults_5 ?_
  refine J_istore_n C dL_faults_6 rfl (by decide) (lv' := [(2, .int (jI 0)), (1, .ref (adE E 281)), (0, .ref (adE E 0))]) rfl ?_
  replace h := h (fun (x2_7 : Int) (sL7 : Sg) => rgI x2_7 → gN sL7 = gN s → JY F E0 E 1 7 sL7 7 [(0, .ref (adE E 0)), (1, .ref (adE E 281)), (2, .int (jI x2_7))] []) (by
    intro x2_7 sL7 h g2_7 nL7
    have j306 : ∀ (x2 : Int) (t0_306 : Int) (t1_306 : Int) (t2_306 : Int) (sj : Sg), wj_L_faults_306 (fun (x2_7 : Int) (sL7 : Sg) => rgI x2_7 → gN sL7 = gN s → JY F E0 E 1 7 sL7 7 [(0, .ref (adE E 0)), (1, .ref (adE E 281)), (2, .int (jI x2_7))] [])  x2 t0_306 t1_306 t2_306 sj Q → rgI x2 → rgI t0_306 → rgI t1_306 → rgI t2_306 → gN sj = gN s → JY F E0 E 1 7 sj 306 [(0, .ref (adE E 0)), (1, .ref (adE E 281)), (2, .int (jI x2))] [.int (jI t0_306), .int (jI t1_306), .int (jI t2_306), .ref (adE E 281)] := by
      intro x2 t0_306 t1_306 t2_306 sj h g2 gt0_306 gt1_306 gt2_306 nj
      refine J_iadd C dL_faults_306 ?_
      obtain ⟨b104, b105, g106, h⟩ := h
      refine J_iastY C hs (dmY hs hm nj) hAY b104 b105 g106 dL_faults_307 ?_
      obtain ⟨s107, f108⟩ : ∃ z : Sg, z = sI sj 281 t2_306 (t1_306 + t0_306) := ⟨_, rfl⟩
      replace h := h s107 f108
      refine J_sig f108 ?_
      have n109 : gN s107 = gN s := by rw [f108]; exact nj
      refine J_iinc C dL_faults_308 2 rfl (by decide) (lv' := [(2, .int (jI (x2 + 1))), (0, .ref (adE E 0)), (1, .ref (adE E 281))]) rfl ?_
      refine J_goto C (tgt := 7) dL_faults_311 (by decide) ?_
      obtain ⟨g110, h⟩ := h
      exact J_sub [1, 2, 0] rfl (h g110 n109)
    have j245 : ∀ (x2 : Int) (t0_245 : Int) (t1_245 : Int) (sj : Sg), wj_L_faults_245 (fun (x2_7 : Int) (sL7 : Sg) => rgI x2_7 → gN sL7 = gN s → JY F E0 E 1 7 sL7 7 [(0, .ref (adE E 0)), (1, .ref (adE E 281)), (2, .int (jI x2_7))] [])  x2 t0_245 t1_245 sj Q → rgI x2 → rgI t0_245 → rgI t1_245 → gN sj = gN s → JY F E0 E 1 7 sj 245 [(0, .ref (adE E 0)), (1, .ref (adE E 281)), (2, .int (jI x2))] [.int (jI t0_245), .int (jI t1_245)] := by
      intro x2 t0_245 t1_245 sj h g2 gt0_245 gt1_245 nj
      refine J_iadd C dL_faults_245 ?_
      obtain ⟨x6_246, e96⟩ : ∃ v : Int, v = (t1_245 + t0_245) := ⟨_, rfl⟩
      obtain ⟨g6_246, h⟩ := h x6_246 e96
      refine J_top e96 ?_
      refine J_istore C dL_faults_246 (by decide) (lv' := [(6, .int (jI x6_246)), (0, .ref (adE E 0)), (1, .ref (adE E 281)), (2, .int (jI x2))]) rfl ?_
      refine J_aload_n C dL_faults_248 rfl 1 rfl ?_
      refine J_iload_n C dL_faults_249 rfl 3 rfl ?_
      refine J_iconst C dL_faults_250 ?_
      refine J_V C (ct_X9_subtitle hs g2 (rgN 5 (by decide)) h) ck_X9_subtitle wm_L_33 win_X9_subtitle wsel_X9_subtitle (dmC hs kc0 (by decide)) (clE_k E sj kc0) rfl ⟨rfl, rfl⟩ (by decide) (by decide) (As := [.int (jI x2), .int (jI 5)]) (rest := []) rfl rfl (Nat.le_of_ble_eq_true rfl) dL_faults_251 (J_pI (fun v97 g99 h => ?_))
      refine J_iload C dL_faults_254 0 rfl ?_
      refine J_icmp_eq C g99 g6_246 (tgt := 261) dL_faults_256 (by decide) (fun q123 => ?_) (fun q123 => ?_)
      · replace h := h.1 q123
        refine J_iconst C dL_faults_261 ?_
        refine J_istore C dL_faults_262 (by decide) (lv' := [(7, .int (jI 0)), (6, .int (jI x6_246)), (0, .ref (adE E 0)), (1, .ref (adE E 281)), (2, .int (jI x2))]) rfl ?_
        replace h := h (fun (x7_264 : Int) (sL264 : Sg) => rgI x7_264 → gN sL264 = gN s → JY F E0 E 1 7 sL264 264 [(0, .ref (adE E 0)), (1, .ref (adE E 281)), (2, .int (jI x2)), (6, .int (jI x6_246)), (7, .int (jI x7_264))] []) (by
          intro x7_264 sL264 h g7_264 nL264
          refine J_iload C dL_faults_264 4 rfl ?_
          refine J_bipush C dL_faults_266 (by decide) ?_
          refine J_icmp_ge C g7_264 (rgN 6 (by decide)) (tgt := 291) dL_faults_268 (by decide) (fun q122 => ?_) (fun q122 => ?_)
          · replace h := h.1 q122
            refine J_aload_n C dL_faults_291 rfl 1 rfl ?_
            refine J_bipush C dL_faults_292 (by decide) ?_
            refine J_dup2 C dL_faults_294 rfl rfl ?_
            obtain ⟨b101, b102, h⟩ := h
            refine J_iald C (dmY hs hm nL264) (n := 7) (clE_k E sL264 kc281) (by decide) b101 b102 dL_faults_295 (fun g103 => ?_)
            refine J_iload C dL_faults_296 3 rfl ?_
            refine J_if_le C g6_246 (tgt := 305) dL_faults_298 (by decide) (fun q111 => ?_) (fun q111 => ?_)
            · replace h := h.1 q111
              refine J_iconst C dL_faults_305 ?_
              exact J_sub [0, 1, 2] rfl (j306 _ _ _ _ _ h g2 (rgN 0 (by decide)) g103 (rgN 6 (by decide)) nL264)
            · replace h := h.2 q111
              refine J_iconst C dL_faults_301 ?_
              refine J_goto C (tgt := 306) dL_faults_302 (by decide) ?_
              exact J_sub [0, 1, 2] rfl (j306 _ _ _ _ _ h g2 (rgN 1 (by decide)) g103 (rgN 6 (by decide)) nL264)
          · replace h := h.2 q122
            refine J_aload_n C dL_faults_271 rfl 1 rfl ?_
            refine J_iload C dL_faults_272 4 rfl ?_
            refine J_dup2 C dL_faults_274 rfl rfl ?_
            obtain ⟨b112, b113, h⟩ := h
            refine J_iald C (dmY hs hm nL264) (n := 7) (clE_k E sL264 kc281) (by decide) b112 b113 dL_faults_275 (fun g114 => ?_)
            refine J_iload C dL_faults_276 3 rfl ?_
            refine J_iload C dL_faults_278 4 rfl ?_
            refine J_ishr C dL_faults_280 ?_
            refine J_iconst C dL_faults_281 ?_
            refine J_iand C dL_faults_282 ?_
            refine J_iadd C dL_faults_283 ?_
            obtain ⟨b115, b116, g117, h⟩ := h
            refine J_iastY C hs (dmY hs hm nL264) hAY b115 b116 g117 dL_faults_284 ?_
            obtain ⟨s118, f119⟩ : ∃ z : Sg, z = sI sL264 281 x7_264 ((gI sL264 281 x7_264) + (jAnd (jShr x6_246 x7_264) 1)) := ⟨_, rfl⟩
            replace h := h s118 f119
            refine J_sig f119 ?_
            have n120 : gN s118 = gN s := by rw [f119]; exact nL264
            refine J_iinc C dL_faults_285 4 rfl (by decide) (lv' := [(7, .int (jI (x7_264 + 1))), (0, .ref (adE E 0)), (1, .ref (adE E 281)), (2, .int (jI x2)), (6, .int (jI x6_246))]) rfl ?_
            refine J_goto C (tgt := 264) dL_faults_288 (by decide) ?_
            obtain ⟨g121, h⟩ := h
            exact J_sub [1, 2, 3, 4, 0] rfl (h g121 n120)
        )
        exact J_sub [2, 3, 4, 1, 0] rfl (h (rgN 0 (by decide)) nj)
      · replace h := h.2 q123
        refine J_iconst C dL_faults_259 ?_
        exact J_zretY C hcv (by rw [hmc]; decide) (by rw [hms]; decide) (nar_z (Or.inl rfl)) dL_faults_260 (by rw [hF]; exact ⟨_, rfl, (Or.inl rfl), h, nj⟩)
    have j219 : ∀ (x2 : Int) (t0_219 : Int) (t1_219 : Int) (sj : Sg), wj_L_faults_219 (fun (x2_7 : Int) (sL7 : Sg) => rgI x2_7 → gN sL7 = gN s → JY F E0 E 1 7 sL7 7 [(0, .ref (adE E 0)), (1, .ref (adE E 281)), (2, .int (jI x2_7))] [])  x2 t0_219 t1_219 sj Q → rgI x2 → rgI t0_219 → rgI t1_219 → gN sj = gN s → JY F E0 E 1 7 sj 219 [(0, .ref (adE E 0)), (1, .ref (adE E 281)), (2, .int (jI x2))] [.int (jI t0_219), .int (jI t1_219)] := by
      intro x2 t0_219 t1_219 sj h g2 gt0_219 gt1_219 nj
      refine J_iadd C dL_faults_219 ?_
      obtain ⟨x6_220, e87⟩ : ∃ v : Int, v = (t1_219 + t0_219) := ⟨_, rfl⟩
      obtain ⟨g6_220, h⟩ := h x6_220 e87
      refine J_top e87 ?_
      refine J_istore C dL_faults_220 (by decide) (lv' := [(6, .int (jI x6_220)), (0, .ref (adE E 0)), (1, .ref (adE E 281)), (2, .int (jI x2))]) rfl ?_
      refine J_iload C dL_faults_222 0 rfl ?_
      refine J_aload_n C dL_faults_224 rfl 1 rfl ?_
      refine J_iload_n C dL_faults_225 rfl 3 rfl ?_
      refine J_iconst C dL_faults_226 ?_
      refine J_V C (ct_X9_subtitle hs g2 (rgN 1 (by decide)) h) ck_X9_subtitle wm_L_33 win_X9_subtitle wsel_X9_subtitle (dmC hs kc0 (by decide)) (clE_k E sj kc0) rfl ⟨rfl, rfl⟩ (by decide) (by decide) (As := [.int (jI x2), .int (jI 1)]) (rest := [.int (jI x6_220)]) rfl rfl (Nat.le_of_ble_eq_true rfl) dL_faults_227 (J_pI (fun v88 g90 h => ?_))
      refine J_aload_n C dL_faults_230 rfl 1 rfl ?_
      refine J_bipush C dL_faults_231 (by decide) ?_
      refine J_V C (ct_X9_told hs (rgN 6 (by decide)) h) ck_X9_told wm_L_47 win_X9_told wsel_X9_told (dmC hs kc0 (by decide)) (clE_k E sj kc0) rfl ⟨rfl, rfl⟩ (by decide) (by decide) (As := [.int (jI 6)]) (rest := [.int (jI v88), .int (jI x6_220)]) rfl rfl (Nat.le_of_ble_eq_true rfl) dL_faults_233 (J_pI (fun v92 g94 h => ?_))
      refine J_icmp_le C g90 g94 (tgt := 244) dL_faults_236 (by decide) (fun q124 => ?_) (fun q124 => ?_)
      · replace h := h.1 q124
        refine J_iconst C dL_faults_244 ?_
        exact J_sub [1, 2, 3] rfl (j245 _ _ _ _ h g2 (rgN 0 (by decide)) g6_220 nj)
      · replace h := h.2 q124
        refine J_bipush C dL_faults_239 (by decide) ?_
        refine J_goto C (tgt := 245) dL_faults_241 (by decide) ?_
        exact J_sub [1, 2, 3] rfl (j245 _ _ _ _ h g2 (rgN 32 (by decide)) g6_220 nj)
    have j200 : ∀ (x2 : Int) (t0_200 : Int) (t1_200 : Int) (sj : Sg), wj_L_faults_200 (fun (x2_7 : Int) (sL7 : Sg) => rgI x2_7 → gN sL7 = gN s → JY F E0 E 1 7 sL7 7 [(0, .ref (adE E 0)), (1, .ref (adE E 281)), (2, .int (jI x2_7))] [])  x2 t0_200 t1_200 sj Q → rgI x2 → rgI t0_200 → rgI t1_200 → gN sj = gN s → JY F E0 E 1 7 sj 200 [(0, .ref (adE E 0)), (1, .ref (adE E 281)), (2, .int (jI x2))] [.int (jI t0_200), .int (jI t1_200)] := by
      intro x2 t0_200 t1_200 sj h g2 gt0_200 gt1_200 nj
      refine J_iadd C dL_faults_200 ?_
      obtain ⟨x6_201, e82⟩ : ∃ v : Int, v = (t1_200 + t0_200) := ⟨_, rfl⟩
      obtain ⟨g6_201, h⟩ := h x6_201 e82
      refine J_top e82 ?_
      refine J_istore C dL_faults_201 (by decide) (lv' := [(6, .int (jI x6_201)), (0, .ref (adE E 0)), (1, .ref (adE E 281)), (2, .int (jI x2))]) rfl ?_
      refine J_iload C dL_faults_203 0 rfl ?_
      refine J_aload_n C dL_faults_205 rfl 1 rfl ?_
      refine J_iload_n C dL_faults_206 rfl 3 rfl ?_
      refine J_S C (ct_L_isTooWide hs g2 h) ck_L_isTooWide wm_L_72 wst_L_isTooWide ⟨rfl, rfl⟩ (by decide) (by decide) (As := [.ref (adE E 0), .int (jI x2)]) (rest := [.int (jI x6_201)]) rfl rfl (Nat.le_of_ble_eq_true rfl) dL_faults_207 (J_pZ (fun v83 g85 h => ?_))
      refine J_if_eq C (rg_z g85) (tgt := 218) dL_faults_210 (by decide) (fun q125 => ?_) (fun q125 => ?_)
      · replace h := h.1 q125
        refine J_iconst C dL_faults_218 ?_
        exact J_sub [1, 2, 3] rfl (j219 _ _ _ _ h g2 (rgN 0 (by decide)) g6_201 nj)
      · replace h := h.2 q125
        refine J_bipush C dL_faults_213 (by decide) ?_
        refine J_goto C (tgt := 219) dL_faults_215 (by decide) ?_
        exact J_sub [1, 2, 3] rfl (j219 _ _ _ _ h g2 (rgN 16 (by decide)) g6_201 nj)
    have j194 : ∀ (x2 : Int) (t0_194 : Int) (sj : Sg), wj_L_faults_194 (fun (x2_7 : Int) (sL7 : Sg) => rgI x2_7 → gN sL7 = gN s → JY F E0 E 1 7 sL7 7 [(0, .ref (adE E 0)), (1, .ref (adE E 281)), (2, .int (jI x2_7))] [])  x2 t0_194 sj Q → rgI x2 → rgI t0_194 → gN sj = gN s → JY F E0 E 1 7 sj 194 [(0, .ref (adE E 0)), (1, .ref (adE E 281)), (2, .int (jI x2))] [.int (jI t0_194)] := by
      intro x2 t0_194 sj h g2 gt0_194 nj
      refine J_bipush C dL_faults_194 (by decide) ?_
      refine J_goto C (tgt := 200) dL_faults_196 (by decide) ?_
      exact J_sub [0, 1, 2] rfl (j200 _ _ _ _ h g2 (rgN 8 (by decide)) gt0_194 nj)
    have j163 : ∀ (x2 : Int) (t0_163 : Int) (t1_163 : Int) (sj : Sg), wj_L_faults_163 (fun (x2_7 : Int) (sL7 : Sg) => rgI x2_7 → gN sL7 = gN s → JY F E0 E 1 7 sL7 7 [(0, .ref (adE E 0)), (1, .ref (adE E 281)), (2, .int (jI x2_7))] [])  x2 t0_163 t1_163 sj Q → rgI x2 → rgI t0_163 → rgI t1_163 → gN sj = gN s → JY F E0 E 1 7 sj 163 [(0, .ref (adE E 0)), (1, .ref (adE E 281)), (2, .int (jI x2))] [.int (jI t0_163), .int (jI t1_163)] := by
      intro x2 t0_163 t1_163 sj h g2 gt0_163 gt1_163 nj
      refine J_iadd C dL_faults_163 ?_
      obtain ⟨x6_164, e73⟩ : ∃ v : Int, v = (t1_163 + t0_163) := ⟨_, rfl⟩
      obtain ⟨g6_164, h⟩ := h x6_164 e73
      refine J_top e73 ?_
      refine J_istore C dL_faults_164 (by decide) (lv' := [(6, .int (jI x6_164)), (0, .ref (adE E 0)), (1, .ref (adE E 281)), (2, .int (jI x2))]) rfl ?_
      refine J_iload C dL_faults_166 0 rfl ?_
      refine J_aload_n C dL_faults_168 rfl 1 rfl ?_
      refine J_aload_n C dL_faults_169 rfl 1 rfl ?_
      refine J_iload_n C dL_faults_170 rfl 3 rfl ?_
      refine J_iconst C dL_faults_171 ?_
      refine J_V C (ct_X9_subtitle hs g2 (rgN 0 (by decide)) h) ck_X9_subtitle wm_L_33 win_X9_subtitle wsel_X9_subtitle (dmC hs kc0 (by decide)) (clE_k E sj kc0) rfl ⟨rfl, rfl⟩ (by decide) (by decide) (As := [.int (jI x2), .int (jI 0)]) (rest := [.ref (adE E 0), .int (jI x6_164)]) rfl rfl (Nat.le_of_ble_eq_true rfl) dL_faults_172 (J_pI (fun v74 g76 h => ?_))
      refine J_S C (ct_L_isNear hs g76 h) ck_L_isNear wm_L_69 wst_L_isNear ⟨rfl, rfl⟩ (by decide) (by decide) (As := [.ref (adE E 0), .int (jI v74)]) (rest := [.int (jI x6_164)]) rfl rfl (Nat.le_of_ble_eq_true rfl) dL_faults_175 (J_pZ (fun v78 g80 h => ?_))
      refine J_if_ne C (rg_z g80) (tgt := 194) dL_faults_178 (by decide) (fun q135 => ?_) (fun q135 => ?_)
      · replace h := h.2 q135
        exact J_sub [1, 2, 3] rfl (j194 _ _ _ h g2 g6_164 nj)
      · replace h := h.1 q135
        refine J_aload_n C dL_faults_181 rfl 1 rfl ?_
        refine J_aload_n C dL_faults_182 rfl 1 rfl ?_
        refine J_iload_n C dL_faults_183 rfl 3 rfl ?_
        refine J_iconst C dL_faults_184 ?_
        refine J_V C (ct_X9_subtitle hs g2 (rgN 1 (by decide)) h) ck_X9_subtitle wm_L_33 win_X9_subtitle wsel_X9_subtitle (dmC hs kc0 (by decide)) (clE_k E sj kc0) rfl ⟨rfl, rfl⟩ (by decide) (by decide) (As := [.int (jI x2), .int (jI 1)]) (rest := [.ref (adE E 0), .int (jI x6_164)]) rfl rfl (Nat.le_of_ble_eq_true rfl) dL_faults_185 (J_pI (fun v126 g128 h => ?_))
        refine J_S C (ct_L_isNear hs g128 h) ck_L_isNear wm_L_69 wst_L_isNear ⟨rfl, rfl⟩ (by decide) (by decide) (As := [.ref (adE E 0), .int (jI v126)]) (rest := [.int (jI x6_164)]) rfl rfl (Nat.le_of_ble_eq_true rfl) dL_faults_188 (J_pZ (fun v130 g132 h => ?_))
        refine J_if_eq C (rg_z g132) (tgt := 199) dL_faults_191 (by decide) (fun q134 => ?_) (fun q134 => ?_)
        · replace h := h.1 q134
          refine J_iconst C dL_faults_199 ?_
          exact J_sub [1, 2, 3] rfl (j200 _ _ _ _ h g2 (rgN 0 (by decide)) g6_164 nj)
        · replace h := h.2 q134
          exact J_sub [1, 2, 3] rfl (j194 _ _ _ h g2 g6_164 nj)
    have j148 : ∀ (x2 : Int) (x5 : Int) (t0_148 : Int) (t1_148 : Int) (sj : Sg), wj_L_faults_148 (fun (x2_7 : Int) (sL7 : Sg) => rgI x2_7 → gN sL7 = gN s → JY F E0 E 1 7 sL7 7 [(0, .ref (adE E 0)), (1, .ref (adE E 281)), (2, .int (jI x2_7))] [])  x2 x5 t0_148 t1_148 sj Q → rgI x2 → rgI x5 → rgI t0_148 → rgI t1_148 → gN sj = gN s → JY F E0 E 1 7 sj 148 [(0, .ref (adE E 0)), (1, .ref (adE E 281)), (2, .int (jI x2)), (5, .int (jI x5))] [.int (jI t0_148), .int (jI t1_148)] := by
      intro x2 x5 t0_148 t1_148 sj h g2 g5 gt0_148 gt1_148 nj
      refine J_iadd C dL_faults_148 ?_
      obtain ⟨x6_149, e72⟩ : ∃ v : Int, v = (t1_148 + t0_148) := ⟨_, rfl⟩
      obtain ⟨g6_149, h⟩ := h x6_149 e72
      refine J_top e72 ?_
      refine J_istore C dL_faults_149 (by decide) (lv' := [(6, .int (jI x6_149)), (0, .ref (adE E 0)), (1, .ref (adE E 281)), (2, .int (jI x2)), (5, .int (jI x5))]) rfl ?_
      refine J_iload C dL_faults_151 0 rfl ?_
      refine J_iload C dL_faults_153 4 rfl ?_
      refine J_if_eq C g5 (tgt := 162) dL_faults_155 (by decide) (fun q136 => ?_) (fun q136 => ?_)
      · replace h := h.1 q136
        refine J_iconst C dL_faults_162 ?_
        exact J_sub [1, 2, 3] rfl (j163 _ _ _ _ h g2 (rgN 0 (by decide)) g6_149 nj)
      · replace h := h.2 q136
        refine J_iconst C dL_faults_158 ?_
        refine J_goto C (tgt := 163) dL_faults_159 (by decide) ?_
        exact J_sub [1, 2, 3] rfl (j163 _ _ _ _ h g2 (rgN 4 (by decide)) g6_149 nj)
    have j147 : ∀ (x2 : Int) (x5 : Int) (t0_147 : Int) (sj : Sg), wj_L_faults_147 (fun (x2_7 : Int) (sL7 : Sg) => rgI x2_7 → gN sL7 = gN s → JY F E0 E 1 7 sL7 7 [(0, .ref (adE E 0)), (1, .ref (adE E 281)), (2, .int (jI x2_7))] [])  x2 x5 t0_147 sj Q → rgI x2 → rgI x5 → rgI t0_147 → gN sj = gN s → JY F E0 E 1 7 sj 147 [(0, .ref (adE E 0)), (1, .ref (adE E 281)), (2, .int (jI x2)), (5, .int (jI x5))] [.int (jI t0_147)] := by
      intro x2 x5 t0_147 sj h g2 g5 gt0_147 nj
      refine J_iconst C dL_faults_147 ?_
      exact J_sub [0, 1, 2, 3] rfl (j148 _ _ _ _ _ h g2 g5 (rgN 0 (by decide)) gt0_147 nj)
    have j112 : ∀ (x2 : Int) (x4 : Int) (x5 : Int) (t0_112 : Int) (sj : Sg), wj_L_faults_112 (fun (x2_7 : Int) (sL7 : Sg) => rgI x2_7 → gN sL7 = gN s → JY F E0 E 1 7 sL7 7 [(0, .ref (adE E 0)), (1, .ref (adE E 281)), (2, .int (jI x2_7))] [])  x2 x4 x5 t0_112 sj Q → rgI x2 → rgI x4 → rgI x5 → rgI t0_112 → gN sj = gN s → JY F E0 E 1 7 sj 112 [(0, .ref (adE E 0)), (1, .ref (adE E 281)), (2, .int (jI x2)), (4, .int (jI x4)), (5, .int (jI x5))] [.int (jI t0_112)] := by
      intro x2 x4 x5 t0_112 sj h g2 g4 g5 gt0_112 nj
      refine J_istore C dL_faults_112 (by decide) (lv' := [(6, .int (jI t0_112)), (0, .ref (adE E 0)), (1, .ref (adE E 281)), (2, .int (jI x2)), (4, .int (jI x4)), (5, .int (jI x5))]) rfl ?_
      refine J_iload C dL_faults_114 0 rfl ?_
      refine J_iload C dL_faults_116 4 rfl ?_
      refine J_if_lt C g4 (tgt := 147) dL_faults_118 (by decide) (fun q151 => ?_) (fun q151 => ?_)
      · replace h := h.1 q151
        exact J_sub [1, 2, 3, 5] rfl (j147 _ _ _ _ h g2 g5 gt0_112 nj)
      · replace h := h.2 q151
        refine J_aload_n C dL_faults_121 rfl 1 rfl ?_
        refine J_iload_n C dL_faults_122 rfl 3 rfl ?_
        refine J_iconst C dL_faults_123 ?_
        refine J_V C (ct_X9_subtitle hs g2 (rgN 1 (by decide)) h) ck_X9_subtitle wm_L_33 win_X9_subtitle wsel_X9_subtitle (dmC hs kc0 (by decide)) (clE_k E sj kc0) rfl ⟨rfl, rfl⟩ (by decide) (by decide) (As := [.int (jI x2), .int (jI 1)]) (rest := [.int (jI t0_112)]) rfl rfl (Nat.le_of_ble_eq_true rfl) dL_faults_124 (J_pI (fun v137 g139 h => ?_))
        refine J_aload_n C dL_faults_127 rfl 1 rfl ?_
        refine J_iload C dL_faults_128 4 rfl ?_
        refine J_iconst C dL_faults_130 ?_
        refine J_V C (ct_X9_subtitle hs g4 (rgN 0 (by decide)) h) ck_X9_subtitle wm_L_33 win_X9_subtitle wsel_X9_subtitle (dmC hs kc0 (by decide)) (clE_k E sj kc0) rfl ⟨rfl, rfl⟩ (by decide) (by decide) (As := [.int (jI x4), .int (jI 0)]) (rest := [.int (jI v137), .int (jI t0_112)]) rfl rfl (Nat.le_of_ble_eq_true rfl) dL_faults_131 (J_pI (fun v141 g143 h => ?_))
        refine J_aload_n C dL_faults_134 rfl 1 rfl ?_
        refine J_iconst C dL_faults_135 ?_
        refine J_V C (ct_X9_told hs (rgN 2 (by decide)) h) ck_X9_told wm_L_47 win_X9_told wsel_X9_told (dmC hs kc0 (by decide)) (clE_k E sj kc0) rfl ⟨rfl, rfl⟩ (by decide) (by decide) (As := [.int (jI 2)]) (rest := [.int (jI v141), .int (jI v137), .int (jI t0_112)]) rfl rfl (Nat.le_of_ble_eq_true rfl) dL_faults_136 (J_pI (fun v145 g147 h => ?_))
        refine J_isub C dL_faults_139 ?_
        obtain ⟨g149, h⟩ := h
        refine J_icmp_le C g139 g149 (tgt := 147) dL_faults_140 (by decide) (fun q150 => ?_) (fun q150 => ?_)
        · replace h := h.1 q150
          exact J_sub [1, 2, 3, 5] rfl (j147 _ _ _ _ h g2 g5 gt0_112 nj)
        · replace h := h.2 q150
          refine J_iconst C dL_faults_143 ?_
          refine J_goto C (tgt := 148) dL_faults_144 (by decide) ?_
          exact J_sub [1, 2, 3, 5] rfl (j148 _ _ _ _ _ h g2 g5 (rgN 2 (by decide)) gt0_112 nj)
    have j95 : ∀ (x2 : Int) (x3 : Int) (x4 : Int) (t0_95 : Int) (sj : Sg), wj_L_faults_95 (fun (x2_7 : Int) (sL7 : Sg) => rgI x2_7 → gN sL7 = gN s → JY F E0 E 1 7 sL7 7 [(0, .ref (adE E 0)), (1, .ref (adE E 281)), (2, .int (jI x2_7))] [])  x2 x3 x4 t0_95 sj Q → rgI x2 → rgI x3 → rgI x4 → rgI t0_95 → gN sj = gN s → JY F E0 E 1 7 sj 95 [(0, .ref (adE E 0)), (1, .ref (adE E 281)), (2, .int (jI x2)), (3, .int (jI x3)), (4, .int (jI x4))] [.int (jI t0_95)] := by
      intro x2 x3 x4 t0_95 sj h g2 g3 g4 gt0_95 nj
      refine J_istore C dL_faults_95 (by decide) (lv' := [(5, .int (jI t0_95)), (0, .ref (adE E 0)), (1, .ref (adE E 281)), (2, .int (jI x2)), (3, .int (jI x3)), (4, .int (jI x4))]) rfl ?_
      refine J_iload_n C dL_faults_97 rfl 4 rfl ?_
      refine J_aload_n C dL_faults_98 rfl 1 rfl ?_
      refine J_iload_n C dL_faults_99 rfl 3 rfl ?_
      refine J_iconst C dL_faults_100 ?_
      refine J_V C (ct_X9_subtitle hs g2 (rgN 4 (by decide)) h) ck_X9_subtitle wm_L_33 win_X9_subtitle wsel_X9_subtitle (dmC hs kc0 (by decide)) (clE_k E sj kc0) rfl ⟨rfl, rfl⟩ (by decide) (by decide) (As := [.int (jI x2), .int (jI 4)]) (rest := [.int (jI x3)]) rfl rfl (Nat.le_of_ble_eq_true rfl) dL_faults_101 (J_pI (fun v68 g70 h => ?_))
      refine J_icmp_ge C g3 g70 (tgt := 111) dL_faults_104 (by decide) (fun q152 => ?_) (fun q152 => ?_)
      · replace h := h.1 q152
        refine J_iconst C dL_faults_111 ?_
        exact J_sub [1, 2, 3, 5, 0] rfl (j112 _ _ _ _ _ h g2 g4 gt0_95 (rgN 0 (by decide)) nj)
      · replace h := h.2 q152
        refine J_iconst C dL_faults_107 ?_
        refine J_goto C (tgt := 112) dL_faults_108 (by decide) ?_
        exact J_sub [1, 2, 3, 5, 0] rfl (j112 _ _ _ _ _ h g2 g4 gt0_95 (rgN 1 (by decide)) nj)
    have j94 : ∀ (x2 : Int) (x3 : Int) (x4 : Int) (sj : Sg), wj_L_faults_94 (fun (x2_7 : Int) (sL7 : Sg) => rgI x2_7 → gN sL7 = gN s → JY F E0 E 1 7 sL7 7 [(0, .ref (adE E 0)), (1, .ref (adE E 281)), (2, .int (jI x2_7))] [])  x2 x3 x4 sj Q → rgI x2 → rgI x3 → rgI x4 → gN sj = gN s → JY F E0 E 1 7 sj 94 [(0, .ref (adE E 0)), (1, .ref (adE E 281)), (2, .int (jI x2)), (3, .int (jI x3)), (4, .int (jI x4))] [] := by
      intro x2 x3 x4 sj h g2 g3 g4 nj
      refine J_iconst C dL_faults_94 ?_
      exact J_sub [0, 1, 2, 3, 4] rfl (j95 _ _ _ _ _ h g2 g3 g4 (rgN 0 (by decide)) nj)
    have j90 : ∀ (x2 : Int) (x3 : Int) (x4 : Int) (sj : Sg), wj_L_faults_90 (fun (x2_7 : Int) (sL7 : Sg) => rgI x2_7 → gN sL7 = gN s → JY F E0 E 1 7 sL7 7 [(0, .ref (adE E 0)), (1, .ref (adE E 281)), (2, .int (jI x2_7))] [])  x2 x3 x4 sj Q → rgI x2 → rgI x3 → rgI x4 → gN sj = gN s → JY F E0 E 1 7 sj 90 [(0, .ref (adE E 0)), (1, .ref (adE E 281)), (2, .int (jI x2)), (3, .int (jI x3)), (4, .int (jI x4))] [] := by
      intro x2 x3 x4 sj h g2 g3 g4 nj
      refine J_iconst C dL_faults_90 ?_
      refine J_goto C (tgt := 95) dL_faults_91 (by decide) ?_
      exact J_sub [0, 1, 2, 3, 4] rfl (j95 _ _ _ _ _ h g2 g3 g4 (rgN 1 (by decide)) nj)
    have j61 : ∀ (x2 : Int) (x3 : Int) (x4 : Int) (sj : Sg), wj_L_faults_61 (fun (x2_7 : Int) (sL7 : Sg) => rgI x2_7 → gN sL7 = gN s → JY F E0 E 1 7 sL7 7 [(0, .ref (adE E 0)), (1, .ref (adE E 281)), (2, .int (jI x2_7))] [])  x2 x3 x4 sj Q → rgI x2 → rgI x3 → rgI x4 → gN sj = gN s → JY F E0 E 1 7 sj 61 [(0, .ref (adE E 0)), (1, .ref (adE E 281)), (2, .int (jI x2)), (3, .int (jI x3)), (4, .int (jI x4))] [] := by
      intro x2 x3 x4 sj h g2 g3 g4 nj
      refine J_iload_n C dL_faults_61 rfl 2 rfl ?_
      refine J_iconst C dL_faults_62 ?_
      refine J_iadd C dL_faults_63 ?_
      refine J_aload_n C dL_faults_64 rfl 0 rfl ?_
      refine J_bipush C dL_faults_65 (by decide) ?_
      refine J_V C (ct_X9_told hs (rgN 8 (by decide)) h) ck_X9_told wm_L_47 win_X9_told wsel_X9_told (dmC hs kc0 (by decide)) (clE_k E sj kc0) rfl ⟨rfl, rfl⟩ (by decide) (by decide) (As := [.int (jI 8)]) (rest := [.int (jI (x2 + 1))]) rfl rfl (Nat.le_of_ble_eq_true rfl) dL_faults_67 (J_pI (fun v63 g65 h => ?_))
      obtain ⟨g67, h⟩ := h
      refine J_icmp_ge C g67 g65 (tgt := 94) dL_faults_70 (by decide) (fun q163 => ?_) (fun q163 => ?_)
      · replace h := h.1 q163
        exact J_sub [0, 1, 2, 3, 4] rfl (j94 _ _ _ _ h g2 g3 g4 nj)
      · replace h := h.2 q163
        refine J_aload_n C dL_faults_73 rfl 0 rfl ?_
        refine J_iload_n C dL_faults_74 rfl 2 rfl ?_
        refine J_iconst C dL_faults_75 ?_
        refine J_iadd C dL_faults_76 ?_
        refine J_iconst C dL_faults_77 ?_
        obtain ⟨g153, h⟩ := h
        refine J_V C (ct_X9_subtitle hs g153 (rgN 0 (by decide)) h) ck_X9_subtitle wm_L_33 win_X9_subtitle wsel_X9_subtitle (dmC hs kc0 (by decide)) (clE_k E sj kc0) rfl ⟨rfl, rfl⟩ (by decide) (by decide) (As := [.int (jI (x2 + 1)), .int (jI 0)]) (rest := []) rfl rfl (Nat.le_of_ble_eq_true rfl) dL_faults_78 (J_pI (fun v154 g156 h => ?_))
        refine J_aload_n C dL_faults_81 rfl 0 rfl ?_
        refine J_iload_n C dL_faults_82 rfl 2 rfl ?_
        refine J_iconst C dL_faults_83 ?_
        refine J_V C (ct_X9_subtitle hs g2 (rgN 0 (by decide)) h) ck_X9_subtitle wm_L_33 win_X9_subtitle wsel_X9_subtitle (dmC hs kc0 (by decide)) (clE_k E sj kc0) rfl ⟨rfl, rfl⟩ (by decide) (by decide) (As := [.int (jI x2), .int (jI 0)]) (rest := [.int (jI v154)]) rfl rfl (Nat.le_of_ble_eq_true rfl) dL_faults_84 (J_pI (fun v158 g160 h => ?_))
        refine J_icmp_ne C g156 g160 (tgt := 94) dL_faults_87 (by decide) (fun q162 => ?_) (fun q162 => ?_)
        · replace h := h.2 q162
          exact J_sub [0, 1, 2, 3, 4] rfl (j94 _ _ _ _ h g2 g3 g4 nj)
        · replace h := h.1 q162
          exact J_sub [0, 1, 2, 3, 4] rfl (j90 _ _ _ _ h g2 g3 g4 nj)
    refine J_iload_n C dL_faults_7 rfl 2 rfl ?_
    refine J_aload_n C dL_faults_8 rfl 0 rfl ?_
    refine J_bipush C dL_faults_9 (by decide) ?_
    refine J_V C (ct_X9_told hs (rgN 8 (by decide)) h) ck_X9_told wm_L_47 win_X9_told wsel_X9_told (dmC hs kc0 (by decide)) (clE_k E sL7 kc0) rfl ⟨rfl, rfl⟩ (by decide) (by decide) (As := [.int (jI 8)]) (rest := [.int (jI x2_7)]) rfl rfl (Nat.le_of_ble_eq_true rfl) dL_faults_11 (J_pI (fun v21 g23 h => ?_))
    refine J_icmp_ge C g2_7 g23 (tgt := 314) dL_faults_14 (by decide) (fun q175 => ?_) (fun q175 => ?_)
    · replace h := h.1 q175
      refine J_aload_n C dL_faults_314 rfl 0 rfl ?_
      refine J_iconst C dL_faults_315 ?_
      refine J_V C (ct_X9_faults hs (rgN 0 (by decide)) h) ck_X9_faults wm_L_75 win_X9_faults wsel_X9_faults (dmC hs kc0 (by decide)) (clE_k E sL7 kc0) rfl ⟨rfl, rfl⟩ (by decide) (by decide) (As := [.int (jI 0)]) (rest := []) rfl rfl (Nat.le_of_ble_eq_true rfl) dL_faults_316 (J_pI (fun v25 g27 h => ?_))
      refine J_aload_n C dL_faults_319 rfl 1 rfl ?_
      refine J_bipush C dL_faults_320 (by decide) ?_
      obtain ⟨b29, b30, h⟩ := h
      refine J_iald C (dmY hs hm nL7) (n := 7) (clE_k E sL7 kc281) (by decide) b29 b30 dL_faults_322 (fun g31 => ?_)
      refine J_icmp_ne C g27 g31 (tgt := 330) dL_faults_323 (by decide) (fun q49 => ?_) (fun q49 => ?_)
      · replace h := h.2 q49
        refine J_iconst C dL_faults_330 ?_
        exact J_sub [0, 1] rfl (j331 _ _ h (rgN 0 (by decide)) nL7)
      · replace h := h.1 q49
        refine J_iconst C dL_faults_326 ?_
        refine J_goto C (tgt := 331) dL_faults_327 (by decide) ?_
        exact J_sub [0, 1] rfl (j331 _ _ h (rgN 1 (by decide)) nL7)
    · replace h := h.2 q175
      refine J_aload_n C dL_faults_17 rfl 0 rfl ?_
      refine J_iload_n C dL_faults_18 rfl 2 rfl ?_
      refine J_iconst C dL_faults_19 ?_
      refine J_V C (ct_X9_subtitle hs g2_7 (rgN 1 (by decide)) h) ck_X9_subtitle wm_L_33 win_X9_subtitle wsel_X9_subtitle (dmC hs kc0 (by decide)) (clE_k E sL7 kc0) rfl ⟨rfl, rfl⟩ (by decide) (by decide) (As := [.int (jI x2_7), .int (jI 1)]) (rest := []) rfl rfl (Nat.le_of_ble_eq_true rfl) dL_faults_20 (J_pI (fun v50 g52 h => ?_))
      refine J_aload_n C dL_faults_23 rfl 0 rfl ?_
      refine J_iload_n C dL_faults_24 rfl 2 rfl ?_
      refine J_iconst C dL_faults_25 ?_
      refine J_V C (ct_X9_subtitle hs g2_7 (rgN 0 (by decide)) h) ck_X9_subtitle wm_L_33 win_X9_subtitle wsel_X9_subtitle (dmC hs kc0 (by decide)) (clE_k E sL7 kc0) rfl ⟨rfl, rfl⟩ (by decide) (by decide) (As := [.int (jI x2_7), .int (jI 0)]) (rest := [.int (jI v50)]) rfl rfl (Nat.le_of_ble_eq_true rfl) dL_faults_26 (J_pI (fun v54 g56 h => ?_))
      refine J_isub C dL_faults_29 ?_
      obtain ⟨x3_30, e58⟩ : ∃ v : Int, v = (v50 - v54) := ⟨_, rfl⟩
      obtain ⟨g3_30, h⟩ := h x3_30 e58
      refine J_top e58 ?_
      refine J_istore_n C dL_faults_30 rfl (by decide) (lv' := [(3, .int (jI x3_30)), (0, .ref (adE E 0)), (1, .ref (adE E 281)), (2, .int (jI x2_7))]) rfl ?_
      refine J_aload_n C dL_faults_31 rfl 1 rfl ?_
      refine J_iload_n C dL_faults_32 rfl 3 rfl ?_
      refine J_bipush C dL_faults_33 (by decide) ?_
      refine J_V C (ct_X9_subtitle hs g2_7 (rgN 6 (by decide)) h) ck_X9_subtitle wm_L_33 win_X9_subtitle wsel_X9_subtitle (dmC hs kc0 (by decide)) (clE_k E sL7 kc0) rfl ⟨rfl, rfl⟩ (by decide) (by decide) (As := [.int (jI x2_7), .int (jI 6)]) (rest := []) rfl rfl (Nat.le_of_ble_eq_true rfl) dL_faults_35 (J_pI (fun v59 g61 h => ?_))
      refine J_istore C dL_faults_38 (by decide) (lv' := [(4, .int (jI v59)), (3, .int (jI x3_30)), (0, .ref (adE E 0)), (1, .ref (adE E 281)), (2, .int (jI x2_7))]) rfl ?_
      refine J_iload_n C dL_faults_40 rfl 4 rfl ?_
      refine J_if_le C g2_7 (tgt := 61) dL_faults_41 (by decide) (fun q174 => ?_) (fun q174 => ?_)
      · replace h := h.1 q174
        exact J_sub [2, 3, 4, 1, 0] rfl (j61 _ _ _ _ h g2_7 g3_30 g61 nL7)
      · replace h := h.2 q174
        refine J_aload_n C dL_faults_44 rfl 2 rfl ?_
        refine J_iload_n C dL_faults_45 rfl 4 rfl ?_
        refine J_iconst C dL_faults_46 ?_
        refine J_isub C dL_faults_47 ?_
        refine J_iconst C dL_faults_48 ?_
        obtain ⟨g164, h⟩ := h
        refine J_V C (ct_X9_subtitle hs g164 (rgN 0 (by decide)) h) ck_X9_subtitle wm_L_33 win_X9_subtitle wsel_X9_subtitle (dmC hs kc0 (by decide)) (clE_k E sL7 kc0) rfl ⟨rfl, rfl⟩ (by decide) (by decide) (As := [.int (jI (x2_7 - 1)), .int (jI 0)]) (rest := []) rfl rfl (Nat.le_of_ble_eq_true rfl) dL_faults_49 (J_pI (fun v165 g167 h => ?_))
        refine J_aload_n C dL_faults_52 rfl 2 rfl ?_
        refine J_iload_n C dL_faults_53 rfl 4 rfl ?_
        refine J_iconst C dL_faults_54 ?_
        refine J_V C (ct_X9_subtitle hs g2_7 (rgN 0 (by decide)) h) ck_X9_subtitle wm_L_33 win_X9_subtitle wsel_X9_subtitle (dmC hs kc0 (by decide)) (clE_k E sL7 kc0) rfl ⟨rfl, rfl⟩ (by decide) (by decide) (As := [.int (jI x2_7), .int (jI 0)]) (rest := [.int (jI v165)]) rfl rfl (Nat.le_of_ble_eq_true rfl) dL_faults_55 (J_pI (fun v169 g171 h => ?_))
        refine J_icmp_eq C g167 g171 (tgt := 90) dL_faults_58 (by decide) (fun q173 => ?_) (fun q173 => ?_)
        · replace h := h.1 q173
          exact J_sub [2, 3, 4, 1, 0] rfl (j90 _ _ _ _ h g2_7 g3_30 g61 nL7)
        · replace h := h.2 q173
          exact J_sub [2, 3, 4, 1, 0] rfl (j61 _ _ _ _ h g2_7 g3_30 g61 nL7)
  )
  exact J_sub [2, 1, 0] rfl (h (rgN 0 (by decide)) rfl)
