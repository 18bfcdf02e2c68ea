/-! the law: contracts (printed by wip/p26/gen/emit26.py) -/
set_option maxHeartbeats 4000000 in
set_option maxRecDepth 100000 in
theorem ct_L_sets {l : Launch} {E : ET} (hz : eZ E = true) (hs : eS E = true) {s : Sg} {sl : Int} {sx : Int → Int} (hsl : sl = scL E) (hsx : sx = scX E) {Q : Int → Sg → Prop} (h : wp_L_sets sl sx s Q) : MetG l E yL_sets cL_sets 9 (some .boolean) rm_L_sets s [.ref (adE E 0), .ref (ea E 9)] (qZs Q) 12 252 := by
  refine MetGJ (by decide +kernel) (Nat.le_of_ble_eq_true rfl) ?_
  intro F hl C hF hA hmc hms _
  subst hl
  have hAF : ∀ a, adA E s a → fA F a := fun a ha => by rw [hA]; exact ha
  show JJ F E 0 0 s 0 [(0, .ref (adE E 0)), (1, .ref (ea E 9))] []
  have j344 : ∀ (t0_344 : Int) (sj : Sg), wj_L_sets_344  sl sx t0_344 sj Q → rgI t0_344 → gN s ≤ gN sj → JJ F E 12 252 sj 344 [(0, .ref (adE E 0)), (1, .ref (ea E 9))] [.int (jI t0_344)] := by
    intro t0_344 sj h gt0_344 nj
    refine J_istore_n C dL_sets_344 rfl (by decide) (lv' := [(2, .int (jI t0_344)), (0, .ref (adE E 0)), (1, .ref (ea E 9))]) rfl ?_
    refine J_iload_n C dL_sets_345 rfl 0 rfl ?_
    refine J_if_eq C gt0_344 (tgt := 394) dL_sets_346 (by decide) (fun q58 => ?_) (fun q58 => ?_)
    · replace h := h.1 q58
      refine J_iconst C dL_sets_394 ?_
      exact J_zret C (by rw [hmc]; decide) (by rw [hms]; decide) (nar_z (Or.inl rfl)) dL_sets_395 (by rw [hF]; exact ⟨_, rfl, (Or.inl rfl), h⟩)
    · replace h := h.2 q58
      refine J_aload_n C dL_sets_349 rfl 1 rfl ?_
      refine J_iconst C dL_sets_350 ?_
      refine J_aload_n C dL_sets_351 rfl 2 rfl ?_
      refine J_bipush C dL_sets_352 (by decide) ?_
      refine J_S C (ct_L_cell hs hsl hsx (rgN 54 (by decide)) h) ck_L_cell wm_L_9 wst_L_cell ⟨rfl, rfl⟩ (by decide) (by decide) (As := [.ref (ea E 9), .int (jI 54)]) (rest := [.int (jI 3), .ref (adE E 0)]) rfl rfl (Nat.le_of_ble_eq_true rfl) dL_sets_354 (J_pI (fun v36 g38 h => ?_))
      refine J_bipush C dL_sets_357 (by decide) ?_
      refine J_irem C g38 (rgN 20 (by decide)) (by decide) dL_sets_359 ?_
      obtain ⟨g40, h⟩ := h
      refine J_V C (ct_X9_set hs (rgN 3 (by decide)) g40 h) ck_X9_set wm_L_36 win_X9_set wsel_X9_set (dmC hs kc0 (by decide)) (clE_k E sj kc0) rfl ⟨rfl, rfl⟩ (by decide) (by decide) (As := [.int (jI 3), .int (jI (Int.tmod v36 20))]) (rest := []) rfl rfl (Nat.le_of_ble_eq_true rfl) dL_sets_360 (J_kI (fun v41 s42 g43 h n44 => ?_))
      have n45 : gN s ≤ gN s42 := by rw [n44]; exact nj
      refine J_bipush C dL_sets_363 (by decide) ?_
      refine J_icmp_ne C g43 (rgN 6 (by decide)) (tgt := 394) dL_sets_365 (by decide) (fun q57 => ?_) (fun q57 => ?_)
      · replace h := h.2 q57
        refine J_iconst C dL_sets_394 ?_
        exact J_zret C (by rw [hmc]; decide) (by rw [hms]; decide) (nar_z (Or.inl rfl)) dL_sets_395 (by rw [hF]; exact ⟨_, rfl, (Or.inl rfl), h⟩)
      · replace h := h.1 q57
        refine J_aload_n C dL_sets_368 rfl 1 rfl ?_
        refine J_iconst C dL_sets_369 ?_
        refine J_bipush C dL_sets_370 (by decide) ?_
        refine J_aload_n C dL_sets_372 rfl 2 rfl ?_
        refine J_bipush C dL_sets_373 (by decide) ?_
        refine J_S C (ct_L_cell hs hsl hsx (rgN 55 (by decide)) h) ck_L_cell wm_L_9 wst_L_cell ⟨rfl, rfl⟩ (by decide) (by decide) (As := [.ref (ea E 9), .int (jI 55)]) (rest := [.int (jI 8), .int (jI 4), .ref (adE E 0)]) rfl rfl (Nat.le_of_ble_eq_true rfl) dL_sets_375 (J_pI (fun v46 g48 h => ?_))
        refine J_bipush C dL_sets_378 (by decide) ?_
        refine J_irem C g48 (rgN 33 (by decide)) (by decide) dL_sets_380 ?_
        refine J_iadd C dL_sets_381 ?_
        obtain ⟨g50, h⟩ := h
        refine J_V C (ct_X9_set hs (rgN 4 (by decide)) g50 h) ck_X9_set wm_L_36 win_X9_set wsel_X9_set (dmC hs kc0 (by decide)) (clE_k E s42 kc0) rfl ⟨rfl, rfl⟩ (by decide) (by decide) (As := [.int (jI 4), .int (jI (8 + (Int.tmod v46 33)))]) (rest := []) rfl rfl (Nat.le_of_ble_eq_true rfl) dL_sets_382 (J_kI (fun v51 s52 g53 h n54 => ?_))
        have n55 : gN s ≤ gN s52 := by rw [n54]; exact n45
        refine J_bipush C dL_sets_385 (by decide) ?_
        refine J_icmp_ne C g53 (rgN 16 (by decide)) (tgt := 394) dL_sets_387 (by decide) (fun q56 => ?_) (fun q56 => ?_)
        · replace h := h.2 q56
          refine J_iconst C dL_sets_394 ?_
          exact J_zret C (by rw [hmc]; decide) (by rw [hms]; decide) (nar_z (Or.inl rfl)) dL_sets_395 (by rw [hF]; exact ⟨_, rfl, (Or.inl rfl), h⟩)
        · replace h := h.1 q56
          refine J_iconst C dL_sets_390 ?_
          refine J_goto C (tgt := 395) dL_sets_391 (by decide) ?_
          exact J_zret C (by rw [hmc]; decide) (by rw [hms]; decide) (nar_z (Or.inr rfl)) dL_sets_395 (by rw [hF]; exact ⟨_, rfl, (Or.inr rfl), h⟩)
  have j343 : ∀ (sj : Sg), wj_L_sets_343  sl sx  sj Q → gN s ≤ gN sj → JJ F E 12 252 sj 343 [(0, .ref (adE E 0)), (1, .ref (ea E 9))] [] := by
    intro sj h nj
    refine J_iconst C dL_sets_343 ?_
    exact J_sub [0, 1] rfl (j344 _ _ h (rgN 0 (by decide)) nj)
  have j276 : ∀ (x2 : Int) (sj : Sg), wj_L_sets_276  sl sx x2 sj Q → rgI x2 → gN s ≤ gN sj → JJ F E 12 252 sj 276 [(0, .ref (adE E 0)), (1, .ref (ea E 9)), (2, .int (jI x2))] [] := by
    intro x2 sj h g2 nj
    refine J_iload_n C dL_sets_276 rfl 2 rfl ?_
    refine J_if_eq C g2 (tgt := 343) dL_sets_277 (by decide) (fun q92 => ?_) (fun q92 => ?_)
    · replace h := h.1 q92
      exact J_sub [0, 1] rfl (j343  _ h nj)
    · replace h := h.2 q92
      refine J_aload_n C dL_sets_280 rfl 0 rfl ?_
      refine J_iconst C dL_sets_281 ?_
      refine J_iconst C dL_sets_282 ?_
      refine J_aload_n C dL_sets_283 rfl 1 rfl ?_
      refine J_bipush C dL_sets_284 (by decide) ?_
      refine J_S C (ct_L_cell hs hsl hsx (rgN 51 (by decide)) h) ck_L_cell wm_L_9 wst_L_cell ⟨rfl, rfl⟩ (by decide) (by decide) (As := [.ref (ea E 9), .int (jI 51)]) (rest := [.int (jI 1), .int (jI 0), .ref (adE E 0)]) rfl rfl (Nat.le_of_ble_eq_true rfl) dL_sets_286 (J_pI (fun v59 g61 h => ?_))
      refine J_bipush C dL_sets_289 (by decide) ?_
      refine J_irem C g61 (rgN 6 (by decide)) (by decide) dL_sets_291 ?_
      refine J_iadd C dL_sets_292 ?_
      obtain ⟨g63, h⟩ := h
      refine J_V C (ct_X9_set hs (rgN 0 (by decide)) g63 h) ck_X9_set wm_L_36 win_X9_set wsel_X9_set (dmC hs kc0 (by decide)) (clE_k E sj kc0) rfl ⟨rfl, rfl⟩ (by decide) (by decide) (As := [.int (jI 0), .int (jI (1 + (Int.tmod v59 6)))]) (rest := []) rfl rfl (Nat.le_of_ble_eq_true rfl) dL_sets_293 (J_kI (fun v64 s65 g66 h n67 => ?_))
      have n68 : gN s ≤ gN s65 := by rw [n67]; exact nj
      refine J_iconst C dL_sets_296 ?_
      refine J_icmp_ne C g66 (rgN 2 (by decide)) (tgt := 343) dL_sets_297 (by decide) (fun q91 => ?_) (fun q91 => ?_)
      · replace h := h.2 q91
        exact J_sub [0, 1] rfl (j343  _ h n68)
      · replace h := h.1 q91
        refine J_aload_n C dL_sets_300 rfl 0 rfl ?_
        refine J_iconst C dL_sets_301 ?_
        refine J_iconst C dL_sets_302 ?_
        refine J_aload_n C dL_sets_303 rfl 1 rfl ?_
        refine J_bipush C dL_sets_304 (by decide) ?_
        refine J_S C (ct_L_cell hs hsl hsx (rgN 52 (by decide)) h) ck_L_cell wm_L_9 wst_L_cell ⟨rfl, rfl⟩ (by decide) (by decide) (As := [.ref (ea E 9), .int (jI 52)]) (rest := [.int (jI 1), .int (jI 1), .ref (adE E 0)]) rfl rfl (Nat.le_of_ble_eq_true rfl) dL_sets_306 (J_pI (fun v69 g71 h => ?_))
        refine J_bipush C dL_sets_309 (by decide) ?_
        refine J_irem C g71 (rgN 60 (by decide)) (by decide) dL_sets_311 ?_
        refine J_iadd C dL_sets_312 ?_
        obtain ⟨g73, h⟩ := h
        refine J_V C (ct_X9_set hs (rgN 1 (by decide)) g73 h) ck_X9_set wm_L_36 win_X9_set wsel_X9_set (dmC hs kc0 (by decide)) (clE_k E s65 kc0) rfl ⟨rfl, rfl⟩ (by decide) (by decide) (As := [.int (jI 1), .int (jI (1 + (Int.tmod v69 60)))]) (rest := []) rfl rfl (Nat.le_of_ble_eq_true rfl) dL_sets_313 (J_kI (fun v74 s75 g76 h n77 => ?_))
        have n78 : gN s ≤ gN s75 := by rw [n77]; exact n68
        refine J_bipush C dL_sets_316 (by decide) ?_
        refine J_icmp_ne C g76 (rgN 24 (by decide)) (tgt := 343) dL_sets_318 (by decide) (fun q90 => ?_) (fun q90 => ?_)
        · replace h := h.2 q90
          exact J_sub [0, 1] rfl (j343  _ h n78)
        · replace h := h.1 q90
          refine J_aload_n C dL_sets_321 rfl 0 rfl ?_
          refine J_iconst C dL_sets_322 ?_
          refine J_aload_n C dL_sets_323 rfl 1 rfl ?_
          refine J_bipush C dL_sets_324 (by decide) ?_
          refine J_S C (ct_L_cell hs hsl hsx (rgN 53 (by decide)) h) ck_L_cell wm_L_9 wst_L_cell ⟨rfl, rfl⟩ (by decide) (by decide) (As := [.ref (ea E 9), .int (jI 53)]) (rest := [.int (jI 2), .ref (adE E 0)]) rfl rfl (Nat.le_of_ble_eq_true rfl) dL_sets_326 (J_pI (fun v79 g81 h => ?_))
          refine J_bipush C dL_sets_329 (by decide) ?_
          refine J_irem C g81 (rgN 20 (by decide)) (by decide) dL_sets_331 ?_
          obtain ⟨g83, h⟩ := h
          refine J_V C (ct_X9_set hs (rgN 2 (by decide)) g83 h) ck_X9_set wm_L_36 win_X9_set wsel_X9_set (dmC hs kc0 (by decide)) (clE_k E s75 kc0) rfl ⟨rfl, rfl⟩ (by decide) (by decide) (As := [.int (jI 2), .int (jI (Int.tmod v79 20))]) (rest := []) rfl rfl (Nat.le_of_ble_eq_true rfl) dL_sets_332 (J_kI (fun v84 s85 g86 h n87 => ?_))
          have n88 : gN s ≤ gN s85 := by rw [n87]; exact n78
          refine J_iconst C dL_sets_335 ?_
          refine J_icmp_ne C g86 (rgN 2 (by decide)) (tgt := 343) dL_sets_336 (by decide) (fun q89 => ?_) (fun q89 => ?_)
          · replace h := h.2 q89
            exact J_sub [0, 1] rfl (j343  _ h n88)
          · replace h := h.1 q89
            refine J_iconst C dL_sets_339 ?_
            refine J_goto C (tgt := 344) dL_sets_340 (by decide) ?_
            exact J_sub [0, 1] rfl (j344 _ _ h (rgN 1 (by decide)) n88)
  have j128 : ∀ (x2 : Int) (sj : Sg), wj_L_sets_128  sl sx x2 sj Q → rgI x2 → gN s ≤ gN sj → JJ F E 0 0 sj 128 [(0, .ref (adE E 0)), (1, .ref (ea E 9)), (2, .int (jI x2))] [] := by
    intro x2 sj h g2 nj
    refine J_iconst C dL_sets_128 ?_
    refine J_aload_n C dL_sets_129 rfl 1 rfl ?_
    refine J_bipush C dL_sets_130 (by decide) ?_
    refine J_S C (ct_L_cell hs hsl hsx (rgN 22 (by decide)) h) ck_L_cell wm_L_9 wst_L_cell ⟨rfl, rfl⟩ (by decide) (by decide) (As := [.ref (ea E 9), .int (jI 22)]) (rest := [.int (jI 1)]) rfl rfl (Nat.le_of_ble_eq_true rfl) dL_sets_132 (J_pI (fun v31 g33 h => ?_))
    refine J_bipush C dL_sets_135 (by decide) ?_
    refine J_irem C g33 (rgN 6 (by decide)) (by decide) dL_sets_137 ?_
    refine J_iadd C dL_sets_138 ?_
    obtain ⟨x4_139, e35⟩ : ∃ v : Int, v = (1 + (Int.tmod v31 6)) := ⟨_, rfl⟩
    obtain ⟨g4_139, h⟩ := h x4_139 e35
    refine J_top e35 ?_
    refine J_istore C dL_sets_139 (by decide) (lv' := [(4, .int (jI x4_139)), (0, .ref (adE E 0)), (1, .ref (ea E 9)), (2, .int (jI x2))]) rfl ?_
    refine J_iconst C dL_sets_141 ?_
    refine J_istore C dL_sets_142 (by decide) (lv' := [(5, .int (jI 0)), (4, .int (jI x4_139)), (0, .ref (adE E 0)), (1, .ref (ea E 9)), (2, .int (jI x2))]) rfl ?_
    replace h := h (fun (x2_144 : Int) (x5_144 : Int) (sL144 : Sg) => rgI x2_144 → rgI x5_144 → gN s ≤ gN sL144 → JJ F E (0 + 2 * Int.toNat x5_144) (0 + 42 * Int.toNat x5_144) sL144 144 [(0, .ref (adE E 0)), (1, .ref (ea E 9)), (2, .int (jI x2_144)), (4, .int (jI x4_139)), (5, .int (jI x5_144))] []) (by
      intro x2_144 x5_144 sL144 h g2_144 g5_144 nL144
      have j269 : ∀ (x5 : Int) (t0_269 : Int) (sj : Sg), wj_L_sets_269 (fun (x2_144 : Int) (x5_144 : Int) (sL144 : Sg) => rgI x2_144 → rgI x5_144 → gN s ≤ gN sL144 → JJ F E (0 + 2 * Int.toNat x5_144) (0 + 42 * Int.toNat x5_144) sL144 144 [(0, .ref (adE E 0)), (1, .ref (ea E 9)), (2, .int (jI x2_144)), (4, .int (jI x4_139)), (5, .int (jI x5_144))] []) sl sx x4_139 x5 t0_269 sj Q → rgI x5 → rgI t0_269 → gN s ≤ gN sj → JJ F E (0 + 2 * Int.toNat x5 + 2) (0 + 42 * Int.toNat x5 + 42) sj 269 [(0, .ref (adE E 0)), (1, .ref (ea E 9)), (4, .int (jI x4_139)), (5, .int (jI x5))] [.int (jI t0_269)] := by
        intro x5 t0_269 sj h g5 gt0_269 nj
        refine J_istore_n C dL_sets_269 rfl (by decide) (lv' := [(2, .int (jI t0_269)), (0, .ref (adE E 0)), (1, .ref (ea E 9)), (4, .int (jI x4_139)), (5, .int (jI x5))]) rfl ?_
        refine J_iinc C dL_sets_270 4 rfl (by decide) (lv' := [(5, .int (jI (x5 + 1))), (2, .int (jI t0_269)), (0, .ref (adE E 0)), (1, .ref (ea E 9)), (4, .int (jI x4_139))]) rfl ?_
        refine J_goto C (tgt := 144) dL_sets_273 (by decide) ?_
        obtain ⟨g142, w143, w144, h⟩ := h
        refine JQ.widen (c1 := (0 + 2 * Int.toNat (x5 + 1))) (s1 := (0 + 42 * Int.toNat (x5 + 1))) (by omega) (by omega) ?_
        exact J_sub [2, 3, 1, 4, 0] rfl (h gt0_269 g142 nj)
      have j268 : ∀ (x5 : Int) (sj : Sg), wj_L_sets_268 (fun (x2_144 : Int) (x5_144 : Int) (sL144 : Sg) => rgI x2_144 → rgI x5_144 → gN s ≤ gN sL144 → JJ F E (0 + 2 * Int.toNat x5_144) (0 + 42 * Int.toNat x5_144) sL144 144 [(0, .ref (adE E 0)), (1, .ref (ea E 9)), (2, .int (jI x2_144)), (4, .int (jI x4_139)), (5, .int (jI x5_144))] []) sl sx x4_139 x5 sj Q → rgI x5 → gN s ≤ gN sj → JJ F E (0 + 2 * Int.toNat x5 + 2) (0 + 42 * Int.toNat x5 + 42) sj 268 [(0, .ref (adE E 0)), (1, .ref (ea E 9)), (4, .int (jI x4_139)), (5, .int (jI x5))] [] := by
        intro x5 sj h g5 nj
        refine J_iconst C dL_sets_268 ?_
        exact J_sub [0, 1, 2, 3] rfl (j269 _ _ _ h g5 (rgN 0 (by decide)) nj)
      refine J_iload C dL_sets_144 4 rfl ?_
      refine J_iload C dL_sets_146 3 rfl ?_
      refine J_icmp_ge C g5_144 g4_139 (tgt := 276) dL_sets_148 (by decide) (fun q163 => ?_) (fun q163 => ?_)
      · replace h := h.1 q163
        obtain ⟨w93, w94, h⟩ := h
        refine JQ.widen (c1 := 12) (s1 := 252) (by omega) (by omega) ?_
        exact J_sub [0, 1, 2] rfl (j276 _ _ h g2_144 nL144)
      · replace h := h.2 q163
        refine J_iload_n C dL_sets_151 rfl 2 rfl ?_
        refine J_if_eq C g2_144 (tgt := 276) dL_sets_152 (by decide) (fun q162 => ?_) (fun q162 => ?_)
        · replace h := h.1 q162
          obtain ⟨w95, w96, h⟩ := h
          refine JQ.widen (c1 := 12) (s1 := 252) (by omega) (by omega) ?_
          exact J_sub [0, 1, 2] rfl (j276 _ _ h g2_144 nL144)
        · replace h := h.2 q162
          refine J_aload_n C dL_sets_155 rfl 0 rfl ?_
          refine J_aload_n C dL_sets_156 rfl 1 rfl ?_
          refine J_bipush C dL_sets_157 (by decide) ?_
          refine J_iload C dL_sets_159 4 rfl ?_
          refine J_iadd C dL_sets_161 ?_
          obtain ⟨g97, h⟩ := h
          obtain ⟨w98, w99, h⟩ := h
          refine J_S C (ct_L_cell hs hsl hsx g97 h) ck_L_cell wm_L_9 wst_L_cell ⟨rfl, rfl⟩ (by decide) ⟨by show _ ≤ 12; omega, by show _ ≤ 252; omega⟩ (As := [.ref (ea E 9), .int (jI (23 + x5_144))]) (rest := [.ref (adE E 0)]) rfl rfl (Nat.le_of_ble_eq_true rfl) dL_sets_162 (J_pI (fun v100 g102 h => ?_))
          obtain ⟨w104, w105, h⟩ := h
          refine J_S C (ct_L_writes hs g102 h) ck_L_writes wm_L_25 wst_L_writes ⟨rfl, rfl⟩ (by decide) ⟨by show _ ≤ 12; omega, by show _ ≤ 252; omega⟩ (As := [.ref (adE E 0), .int (jI v100)]) (rest := []) rfl rfl (Nat.le_of_ble_eq_true rfl) dL_sets_165 (J_kZ (fun v106 s107 g108 h n109 => ?_))
          have n110 : gN s ≤ gN s107 := by rw [n109]; exact nL144
          refine J_istore_n C dL_sets_168 rfl (by decide) (lv' := [(2, .int (jI v106)), (0, .ref (adE E 0)), (1, .ref (ea E 9)), (4, .int (jI x4_139)), (5, .int (jI x5_144))]) rfl ?_
          refine J_aload_n C dL_sets_169 rfl 2 rfl ?_
          refine J_bipush C dL_sets_170 (by decide) ?_
          refine J_iload C dL_sets_172 4 rfl ?_
          refine J_iadd C dL_sets_174 ?_
          obtain ⟨g111, h⟩ := h
          obtain ⟨w112, w113, h⟩ := h
          refine J_S C (ct_L_cell hs hsl hsx g111 h) ck_L_cell wm_L_9 wst_L_cell ⟨rfl, rfl⟩ (by decide) ⟨by show _ ≤ 12; omega, by show _ ≤ 252; omega⟩ (As := [.ref (ea E 9), .int (jI (30 + x5_144))]) (rest := []) rfl rfl (Nat.le_of_ble_eq_true rfl) dL_sets_175 (J_pI (fun v114 g116 h => ?_))
          refine J_sipush C dL_sets_178 (by decide) ?_
          refine J_irem C g116 (rgN 300 (by decide)) (by decide) dL_sets_181 ?_
          obtain ⟨x6_182, e118⟩ : ∃ v : Int, v = (Int.tmod v114 300) := ⟨_, rfl⟩
          obtain ⟨g6_182, h⟩ := h x6_182 e118
          refine J_top e118 ?_
          refine J_istore C dL_sets_182 (by decide) (lv' := [(6, .int (jI x6_182)), (2, .int (jI v106)), (0, .ref (adE E 0)), (1, .ref (ea E 9)), (4, .int (jI x4_139)), (5, .int (jI x5_144))]) rfl ?_
          refine J_iload C dL_sets_184 0 rfl ?_
          refine J_iconst C dL_sets_186 ?_
          refine J_iadd C dL_sets_187 ?_
          refine J_aload_n C dL_sets_188 rfl 3 rfl ?_
          refine J_bipush C dL_sets_189 (by decide) ?_
          refine J_iload C dL_sets_191 5 rfl ?_
          refine J_iadd C dL_sets_193 ?_
          obtain ⟨g119, h⟩ := h
          obtain ⟨w120, w121, h⟩ := h
          refine J_S C (ct_L_cell hs hsl hsx g119 h) ck_L_cell wm_L_9 wst_L_cell ⟨rfl, rfl⟩ (by decide) ⟨by show _ ≤ 12; omega, by show _ ≤ 252; omega⟩ (As := [.ref (ea E 9), .int (jI (37 + x5_144))]) (rest := [.int (jI (x6_182 + 1))]) rfl rfl (Nat.le_of_ble_eq_true rfl) dL_sets_194 (J_pI (fun v122 g124 h => ?_))
          refine J_bipush C dL_sets_197 (by decide) ?_
          refine J_irem C g124 (rgN 120 (by decide)) (by decide) dL_sets_199 ?_
          refine J_iadd C dL_sets_200 ?_
          obtain ⟨x7_201, e126⟩ : ∃ v : Int, v = ((x6_182 + 1) + (Int.tmod v122 120)) := ⟨_, rfl⟩
          obtain ⟨g7_201, h⟩ := h x7_201 e126
          refine J_top e126 ?_
          refine J_istore C dL_sets_201 (by decide) (lv' := [(7, .int (jI x7_201)), (6, .int (jI x6_182)), (2, .int (jI v106)), (0, .ref (adE E 0)), (1, .ref (ea E 9)), (4, .int (jI x4_139)), (5, .int (jI x5_144))]) rfl ?_
          refine J_aload_n C dL_sets_203 rfl 3 rfl ?_
          refine J_iload C dL_sets_204 1 rfl ?_
          refine J_iload C dL_sets_206 0 rfl ?_
          refine J_aload_n C dL_sets_208 rfl 4 rfl ?_
          refine J_bipush C dL_sets_209 (by decide) ?_
          refine J_iload C dL_sets_211 6 rfl ?_
          refine J_iadd C dL_sets_213 ?_
          obtain ⟨g127, h⟩ := h
          obtain ⟨w128, w129, h⟩ := h
          refine J_S C (ct_L_cell hs hsl hsx g127 h) ck_L_cell wm_L_9 wst_L_cell ⟨rfl, rfl⟩ (by decide) ⟨by show _ ≤ 12; omega, by show _ ≤ 252; omega⟩ (As := [.ref (ea E 9), .int (jI (44 + x5_144))]) (rest := [.int (jI x7_201), .int (jI x6_182), .ref (adE E 0)]) rfl rfl (Nat.le_of_ble_eq_true rfl) dL_sets_214 (J_pI (fun v130 g132 h => ?_))
          refine J_iconst C dL_sets_217 ?_
          refine J_irem C g132 (rgN 4 (by decide)) (by decide) dL_sets_218 ?_
          obtain ⟨g134, h⟩ := h
          obtain ⟨w135, w136, h⟩ := h
          refine J_VG C (fun a ha => hAF a (adA_le (n110) ha)) (ct_X9_add hz hs g6_182 g7_201 g134 h) ck_X9_add wm_L_29 win_X9_add wsel_X9_add (dmC hs kc0 (by decide)) (clE_k E s107 kc0) rfl ⟨rfl, rfl⟩ (by decide) ⟨by show _ ≤ 12; omega, by show _ ≤ 252; omega⟩ (As := [.int (jI x6_182), .int (jI x7_201), .int (jI (Int.tmod v130 4))]) (rest := []) rfl rfl (Nat.le_of_ble_eq_true rfl) dL_sets_219 (J_kI (fun v137 s138 g139 h n140 => ?_))
          have n141 : gN s ≤ gN s138 := by rw [n140]; exact Nat.le_trans (n110) (Nat.le_add_right _ _)
          refine J_istore C dL_sets_222 (by decide) (lv' := [(8, .int (jI v137)), (7, .int (jI x7_201)), (6, .int (jI x6_182)), (2, .int (jI v106)), (0, .ref (adE E 0)), (1, .ref (ea E 9)), (4, .int (jI x4_139)), (5, .int (jI x5_144))]) rfl ?_
          refine J_iload_n C dL_sets_224 rfl 3 rfl ?_
          refine J_if_eq C (rg_z g108) (tgt := 268) dL_sets_225 (by decide) (fun q161 => ?_) (fun q161 => ?_)
          · replace h := h.1 q161
            exact J_sub [4, 5, 6, 7] rfl (j268 _ _ h g5_144 n141)
          · replace h := h.2 q161
            refine J_iload C dL_sets_228 0 rfl ?_
            refine J_if_lt C g139 (tgt := 268) dL_sets_230 (by decide) (fun q160 => ?_) (fun q160 => ?_)
            · replace h := h.1 q160
              exact J_sub [4, 5, 6, 7] rfl (j268 _ _ h g5_144 n141)
            · replace h := h.2 q160
              refine J_iload C dL_sets_233 0 rfl ?_
              refine J_iload C dL_sets_235 7 rfl ?_
              refine J_icmp_gt C g139 g5_144 (tgt := 268) dL_sets_237 (by decide) (fun q159 => ?_) (fun q159 => ?_)
              · replace h := h.1 q159
                exact J_sub [4, 5, 6, 7] rfl (j268 _ _ h g5_144 n141)
              · replace h := h.2 q159
                refine J_aload_n C dL_sets_240 rfl 4 rfl ?_
                refine J_iload C dL_sets_241 0 rfl ?_
                refine J_iconst C dL_sets_243 ?_
                obtain ⟨w145, w146, h⟩ := h
                refine J_V C (ct_X9_subtitle hs g139 (rgN 0 (by decide)) h) ck_X9_subtitle wm_L_33 win_X9_subtitle wsel_X9_subtitle (dmC hs kc0 (by decide)) (clE_k E s138 kc0) rfl ⟨rfl, rfl⟩ (by decide) ⟨by show _ ≤ 12; omega, by show _ ≤ 252; omega⟩ (As := [.int (jI v137), .int (jI 0)]) (rest := []) rfl rfl (Nat.le_of_ble_eq_true rfl) dL_sets_244 (J_pI (fun v147 g149 h => ?_))
                refine J_iload C dL_sets_247 2 rfl ?_
                refine J_icmp_ne C g149 g6_182 (tgt := 268) dL_sets_249 (by decide) (fun q158 => ?_) (fun q158 => ?_)
                · replace h := h.2 q158
                  exact J_sub [4, 5, 6, 7] rfl (j268 _ _ h g5_144 n141)
                · replace h := h.1 q158
                  refine J_aload_n C dL_sets_252 rfl 4 rfl ?_
                  refine J_iload C dL_sets_253 0 rfl ?_
                  refine J_iconst C dL_sets_255 ?_
                  obtain ⟨w151, w152, h⟩ := h
                  refine J_V C (ct_X9_subtitle hs g139 (rgN 1 (by decide)) h) ck_X9_subtitle wm_L_33 win_X9_subtitle wsel_X9_subtitle (dmC hs kc0 (by decide)) (clE_k E s138 kc0) rfl ⟨rfl, rfl⟩ (by decide) ⟨by show _ ≤ 12; omega, by show _ ≤ 252; omega⟩ (As := [.int (jI v137), .int (jI 1)]) (rest := []) rfl rfl (Nat.le_of_ble_eq_true rfl) dL_sets_256 (J_pI (fun v153 g155 h => ?_))
                  refine J_iload C dL_sets_259 1 rfl ?_
                  refine J_icmp_ne C g155 g7_201 (tgt := 268) dL_sets_261 (by decide) (fun q157 => ?_) (fun q157 => ?_)
                  · replace h := h.2 q157
                    exact J_sub [4, 5, 6, 7] rfl (j268 _ _ h g5_144 n141)
                  · replace h := h.1 q157
                    refine J_iconst C dL_sets_264 ?_
                    refine J_goto C (tgt := 269) dL_sets_265 (by decide) ?_
                    exact J_sub [4, 5, 6, 7] rfl (j269 _ _ _ h g5_144 (rgN 1 (by decide)) n141)
    )
    obtain ⟨w164, w165, h⟩ := h
    refine JQ.widen (c1 := (0 + 2 * Int.toNat 0)) (s1 := (0 + 42 * Int.toNat 0)) (by omega) (by omega) ?_
    exact J_sub [2, 3, 4, 1, 0] rfl (h g2 (rgN 0 (by decide)) nj)
  have j72 : ∀ (x2 : Int) (sj : Sg), wj_L_sets_72  sl sx x2 sj Q → rgI x2 → gN s ≤ gN sj → JJ F E 0 0 sj 72 [(0, .ref (adE E 0)), (1, .ref (ea E 9)), (2, .int (jI x2))] [] := by
    intro x2 sj h g2 nj
    refine J_iconst C dL_sets_72 ?_
    refine J_istore C dL_sets_73 (by decide) (lv' := [(4, .int (jI 0)), (0, .ref (adE E 0)), (1, .ref (ea E 9)), (2, .int (jI x2))]) rfl ?_
    replace h := h (fun (x2_75 : Int) (x4_75 : Int) (sL75 : Sg) => rgI x2_75 → rgI x4_75 → gN s ≤ gN sL75 → JJ F E 0 0 sL75 75 [(0, .ref (adE E 0)), (1, .ref (ea E 9)), (2, .int (jI x2_75)), (4, .int (jI x4_75))] []) (by
      intro x2_75 x4_75 sL75 h g2_75 g4_75 nL75
      have j121 : ∀ (x4 : Int) (t0_121 : Int) (sj : Sg), wj_L_sets_121 (fun (x2_75 : Int) (x4_75 : Int) (sL75 : Sg) => rgI x2_75 → rgI x4_75 → gN s ≤ gN sL75 → JJ F E 0 0 sL75 75 [(0, .ref (adE E 0)), (1, .ref (ea E 9)), (2, .int (jI x2_75)), (4, .int (jI x4_75))] []) sl sx x4 t0_121 sj Q → rgI x4 → rgI t0_121 → gN s ≤ gN sj → JJ F E 0 0 sj 121 [(0, .ref (adE E 0)), (1, .ref (ea E 9)), (4, .int (jI x4))] [.int (jI t0_121)] := by
        intro x4 t0_121 sj h g4 gt0_121 nj
        refine J_istore_n C dL_sets_121 rfl (by decide) (lv' := [(2, .int (jI t0_121)), (0, .ref (adE E 0)), (1, .ref (ea E 9)), (4, .int (jI x4))]) rfl ?_
        refine J_iinc C dL_sets_122 3 rfl (by decide) (lv' := [(4, .int (jI (x4 + 1))), (2, .int (jI t0_121)), (0, .ref (adE E 0)), (1, .ref (ea E 9))]) rfl ?_
        refine J_goto C (tgt := 75) dL_sets_125 (by decide) ?_
        obtain ⟨g177, h⟩ := h
        exact J_sub [2, 3, 1, 0] rfl (h gt0_121 g177 nj)
      refine J_iload C dL_sets_75 3 rfl ?_
      refine J_aload_n C dL_sets_77 rfl 1 rfl ?_
      refine J_bipush C dL_sets_78 (by decide) ?_
      refine J_S C (ct_L_cell hs hsl hsx (rgN 13 (by decide)) h) ck_L_cell wm_L_9 wst_L_cell ⟨rfl, rfl⟩ (by decide) (by decide) (As := [.ref (ea E 9), .int (jI 13)]) (rest := [.int (jI x4_75)]) rfl rfl (Nat.le_of_ble_eq_true rfl) dL_sets_80 (J_pI (fun v26 g28 h => ?_))
      refine J_bipush C dL_sets_83 (by decide) ?_
      refine J_irem C g28 (rgN 8 (by decide)) (by decide) dL_sets_85 ?_
      obtain ⟨g30, h⟩ := h
      refine J_icmp_ge C g4_75 g30 (tgt := 128) dL_sets_86 (by decide) (fun q180 => ?_) (fun q180 => ?_)
      · replace h := h.1 q180
        exact J_sub [0, 1, 2] rfl (j128 _ _ h g2_75 nL75)
      · replace h := h.2 q180
        refine J_iload_n C dL_sets_89 rfl 2 rfl ?_
        refine J_if_eq C g2_75 (tgt := 128) dL_sets_90 (by decide) (fun q179 => ?_) (fun q179 => ?_)
        · replace h := h.1 q179
          exact J_sub [0, 1, 2] rfl (j128 _ _ h g2_75 nL75)
        · replace h := h.2 q179
          refine J_aload_n C dL_sets_93 rfl 0 rfl ?_
          refine J_iconst C dL_sets_94 ?_
          refine J_aload_n C dL_sets_95 rfl 1 rfl ?_
          refine J_bipush C dL_sets_96 (by decide) ?_
          refine J_iload C dL_sets_98 3 rfl ?_
          refine J_iadd C dL_sets_100 ?_
          obtain ⟨g166, h⟩ := h
          refine J_S C (ct_L_cell hs hsl hsx g166 h) ck_L_cell wm_L_9 wst_L_cell ⟨rfl, rfl⟩ (by decide) (by decide) (As := [.ref (ea E 9), .int (jI (14 + x4_75))]) (rest := [.int (jI 1), .ref (adE E 0)]) rfl rfl (Nat.le_of_ble_eq_true rfl) dL_sets_101 (J_pI (fun v167 g169 h => ?_))
          refine J_sipush C dL_sets_104 (by decide) ?_
          refine J_irem C g169 (rgN 500 (by decide)) (by decide) dL_sets_107 ?_
          refine J_iadd C dL_sets_108 ?_
          refine J_iconst C dL_sets_109 ?_
          obtain ⟨g171, h⟩ := h
          refine J_V C (ct_X9_shot hs g171 (rgN 1 (by decide)) h) ck_X9_shot wm_L_21 win_X9_shot wsel_X9_shot (dmC hs kc0 (by decide)) (clE_k E sL75 kc0) rfl ⟨rfl, rfl⟩ (by decide) (by decide) (As := [.int (jI (1 + (Int.tmod v167 500))), .int (jI 1)]) (rest := []) rfl rfl (Nat.le_of_ble_eq_true rfl) dL_sets_110 (J_kI (fun v172 s173 g174 h n175 => ?_))
          have n176 : gN s ≤ gN s173 := by rw [n175]; exact nL75
          refine J_if_le C g174 (tgt := 120) dL_sets_113 (by decide) (fun q178 => ?_) (fun q178 => ?_)
          · replace h := h.1 q178
            refine J_iconst C dL_sets_120 ?_
            exact J_sub [0, 1, 3] rfl (j121 _ _ _ h g4_75 (rgN 0 (by decide)) n176)
          · replace h := h.2 q178
            refine J_iconst C dL_sets_116 ?_
            refine J_goto C (tgt := 121) dL_sets_117 (by decide) ?_
            exact J_sub [0, 1, 3] rfl (j121 _ _ _ h g4_75 (rgN 1 (by decide)) n176)
    )
    exact J_sub [1, 2, 3, 0] rfl (h g2 (rgN 0 (by decide)) nj)
  refine J_iconst C dL_sets_0 ?_
  refine J_istore_n C dL_sets_1 rfl (by decide) (lv' := [(2, .int (jI 1)), (0, .ref (adE E 0)), (1, .ref (ea E 9))]) rfl ?_
  refine J_aload_n C dL_sets_2 rfl 2 rfl ?_
  refine J_iconst C dL_sets_3 ?_
  refine J_S C (ct_L_cell hs hsl hsx (rgN 0 (by decide)) h) ck_L_cell wm_L_9 wst_L_cell ⟨rfl, rfl⟩ (by decide) (by decide) (As := [.ref (ea E 9), .int (jI 0)]) (rest := []) rfl rfl (Nat.le_of_ble_eq_true rfl) dL_sets_4 (J_pI (fun v21 g23 h => ?_))
  refine J_bipush C dL_sets_7 (by decide) ?_
  refine J_irem C g23 (rgN 6 (by decide)) (by decide) dL_sets_9 ?_
  obtain ⟨x3_10, e25⟩ : ∃ v : Int, v = (Int.tmod v21 6) := ⟨_, rfl⟩
  obtain ⟨g3_10, h⟩ := h x3_10 e25
  refine J_top e25 ?_
  refine J_istore_n C dL_sets_10 rfl (by decide) (lv' := [(3, .int (jI x3_10)), (2, .int (jI 1)), (0, .ref (adE E 0)), (1, .ref (ea E 9))]) rfl ?_
  refine J_iconst C dL_sets_11 ?_
  refine J_istore C dL_sets_12 (by decide) (lv' := [(4, .int (jI 0)), (3, .int (jI x3_10)), (2, .int (jI 1)), (0, .ref (adE E 0)), (1, .ref (ea E 9))]) rfl ?_
  replace h := h (fun (x2_14 : Int) (x4_14 : Int) (sL14 : Sg) => rgI x2_14 → rgI x4_14 → gN s ≤ gN sL14 → JJ F E 0 0 sL14 14 [(0, .ref (adE E 0)), (1, .ref (ea E 9)), (2, .int (jI x2_14)), (3, .int (jI x3_10)), (4, .int (jI x4_14))] []) (by
    intro x2_14 x4_14 sL14 h g2_14 g4_14 nL14
    have j65 : ∀ (x4 : Int) (t0_65 : Int) (sj : Sg), wj_L_sets_65 (fun (x2_14 : Int) (x4_14 : Int) (sL14 : Sg) => rgI x2_14 → rgI x4_14 → gN s ≤ gN sL14 → JJ F E 0 0 sL14 14 [(0, .ref (adE E 0)), (1, .ref (ea E 9)), (2, .int (jI x2_14)), (3, .int (jI x3_10)), (4, .int (jI x4_14))] []) sl sx x3_10 x4 t0_65 sj Q → rgI x4 → rgI t0_65 → gN s ≤ gN sj → JJ F E 0 0 sj 65 [(0, .ref (adE E 0)), (1, .ref (ea E 9)), (3, .int (jI x3_10)), (4, .int (jI x4))] [.int (jI t0_65)] := by
      intro x4 t0_65 sj h g4 gt0_65 nj
      refine J_istore_n C dL_sets_65 rfl (by decide) (lv' := [(2, .int (jI t0_65)), (0, .ref (adE E 0)), (1, .ref (ea E 9)), (3, .int (jI x3_10)), (4, .int (jI x4))]) rfl ?_
      refine J_iinc C dL_sets_66 4 rfl (by decide) (lv' := [(4, .int (jI (x4 + 1))), (2, .int (jI t0_65)), (0, .ref (adE E 0)), (1, .ref (ea E 9)), (3, .int (jI x3_10))]) rfl ?_
      refine J_goto C (tgt := 14) dL_sets_69 (by decide) ?_
      obtain ⟨g198, h⟩ := h
      exact J_sub [2, 3, 1, 4, 0] rfl (h gt0_65 g198 nj)
    refine J_iload C dL_sets_14 4 rfl ?_
    refine J_iload_n C dL_sets_16 rfl 3 rfl ?_
    refine J_icmp_ge C g4_14 g3_10 (tgt := 72) dL_sets_17 (by decide) (fun q201 => ?_) (fun q201 => ?_)
    · replace h := h.1 q201
      exact J_sub [0, 1, 2] rfl (j72 _ _ h g2_14 nL14)
    · replace h := h.2 q201
      refine J_iload_n C dL_sets_20 rfl 2 rfl ?_
      refine J_if_eq C g2_14 (tgt := 72) dL_sets_21 (by decide) (fun q200 => ?_) (fun q200 => ?_)
      · replace h := h.1 q200
        exact J_sub [0, 1, 2] rfl (j72 _ _ h g2_14 nL14)
      · replace h := h.2 q200
        refine J_aload_n C dL_sets_24 rfl 0 rfl ?_
        refine J_aload_n C dL_sets_25 rfl 1 rfl ?_
        refine J_iconst C dL_sets_26 ?_
        refine J_iload C dL_sets_27 4 rfl ?_
        refine J_iadd C dL_sets_29 ?_
        obtain ⟨g181, h⟩ := h
        refine J_S C (ct_L_cell hs hsl hsx g181 h) ck_L_cell wm_L_9 wst_L_cell ⟨rfl, rfl⟩ (by decide) (by decide) (As := [.ref (ea E 9), .int (jI (1 + x4_14))]) (rest := [.ref (adE E 0)]) rfl rfl (Nat.le_of_ble_eq_true rfl) dL_sets_30 (J_pI (fun v182 g184 h => ?_))
        refine J_sipush C dL_sets_33 (by decide) ?_
        refine J_irem C g184 (rgN 300 (by decide)) (by decide) dL_sets_36 ?_
        refine J_iconst C dL_sets_37 ?_
        refine J_aload_n C dL_sets_38 rfl 1 rfl ?_
        refine J_bipush C dL_sets_39 (by decide) ?_
        refine J_iload C dL_sets_41 4 rfl ?_
        refine J_iadd C dL_sets_43 ?_
        obtain ⟨g186, h⟩ := h
        refine J_S C (ct_L_cell hs hsl hsx g186 h) ck_L_cell wm_L_9 wst_L_cell ⟨rfl, rfl⟩ (by decide) (by decide) (As := [.ref (ea E 9), .int (jI (7 + x4_14))]) (rest := [.int (jI 1), .int (jI (Int.tmod v182 300)), .ref (adE E 0)]) rfl rfl (Nat.le_of_ble_eq_true rfl) dL_sets_44 (J_pI (fun v187 g189 h => ?_))
        refine J_sipush C dL_sets_47 (by decide) ?_
        refine J_irem C g189 (rgN 200 (by decide)) (by decide) dL_sets_50 ?_
        refine J_iadd C dL_sets_51 ?_
        obtain ⟨g191, g192, h⟩ := h
        refine J_V C (ct_X9_piece hs g191 g192 h) ck_X9_piece wm_L_15 win_X9_piece wsel_X9_piece (dmC hs kc0 (by decide)) (clE_k E sL14 kc0) rfl ⟨rfl, rfl⟩ (by decide) (by decide) (As := [.int (jI (Int.tmod v182 300)), .int (jI (1 + (Int.tmod v187 200)))]) (rest := []) rfl rfl (Nat.le_of_ble_eq_true rfl) dL_sets_52 (J_kI (fun v193 s194 g195 h n196 => ?_))
        have n197 : gN s ≤ gN s194 := by rw [n196]; exact nL14
        refine J_iload C dL_sets_55 4 rfl ?_
        refine J_icmp_ne C g195 g4_14 (tgt := 64) dL_sets_57 (by decide) (fun q199 => ?_) (fun q199 => ?_)
        · replace h := h.2 q199
          refine J_iconst C dL_sets_64 ?_
          exact J_sub [0, 1, 3, 4] rfl (j65 _ _ _ h g4_14 (rgN 0 (by decide)) n197)
        · replace h := h.1 q199
          refine J_iconst C dL_sets_60 ?_
          refine J_goto C (tgt := 65) dL_sets_61 (by decide) ?_
          exact J_sub [0, 1, 3, 4] rfl (j65 _ _ _ h g4_14 (rgN 1 (by decide)) n197)
  )
  exact J_sub [3, 4, 2, 1, 0] rfl (h (rgN 1 (by decide)) (rgN 0 (by decide)) (Nat.le_refl _))
