/-! contracts (printed by wip/whole/gen) -/
set_option maxHeartbeats 4000000 in
set_option maxRecDepth 100000 in
theorem ct_X10_stretchesOf {l : Launch} {E : ET} (hs : eS E = false) {s : Sg} {x1 : Int} (g1 : rgI x1) {x2 : Int} (g2 : rgI x2) {x3 : Int} (g3 : rgI x3) {x4 : Int} (g4 : rgI x4) {Q : Int → Sg → Prop} (h : wp_X10_stretchesOf x1 x2 x3 x4 s Q) : MetE l E yX10_stretchesOf cX10_stretchesOf 12 (some .boolean) rm_X10_stretchesOf s [.ref (adE E 279), .int (jI x1), .int (jI x2), .int (jI x3), .int (jI x4)] (qZ Q (gN s)) := by
  refine MetJ (by decide +kernel) (Nat.le_of_ble_eq_true rfl) ?_
  intro F hl C hF
  subst hl
  show JJ F E 0 0 s 0 [(0, .ref (adE E 279)), (1, .int (jI x1)), (2, .int (jI x2)), (3, .int (jI x3)), (4, .int (jI x4))] []
  refine J_aload_n C dX10_stretchesOf_0 rfl 0 rfl ?_
  refine J_iconst C dX10_stretchesOf_1 ?_
  refine pf_X10_stretchesMany C hs wf_X10_132 (rgN 0 (by decide)) dX10_stretchesOf_2 ?_
  obtain ⟨s21, f22⟩ : ∃ z : Sg, z = sI s 279 16 0 := ⟨_, rfl⟩
  replace h := h s21 f22
  refine J_sig f22 ?_
  have n23 : gN s21 = gN s := by rw [f22]; exact rfl
  refine J_bipush C dX10_stretchesOf_5 (by decide) ?_
  refine J_istore C dX10_stretchesOf_7 (by decide) (lv' := [(5, .int (jI (-9))), (0, .ref (adE E 279)), (1, .int (jI x1)), (2, .int (jI x2)), (3, .int (jI x3)), (4, .int (jI x4))]) rfl ?_
  refine J_bipush C dX10_stretchesOf_9 (by decide) ?_
  refine J_istore C dX10_stretchesOf_11 (by decide) (lv' := [(6, .int (jI (-9))), (5, .int (jI (-9))), (0, .ref (adE E 279)), (1, .int (jI x1)), (2, .int (jI x2)), (3, .int (jI x3)), (4, .int (jI x4))]) rfl ?_
  refine J_iconst C dX10_stretchesOf_13 ?_
  refine J_istore C dX10_stretchesOf_14 (by decide) (lv' := [(7, .int (jI 0)), (6, .int (jI (-9))), (5, .int (jI (-9))), (0, .ref (adE E 279)), (1, .int (jI x1)), (2, .int (jI x2)), (3, .int (jI x3)), (4, .int (jI x4))]) rfl ?_
  replace h := h (fun (x5_16 : Int) (x6_16 : Int) (x7_16 : Int) (sL16 : Sg) => rgI x5_16 → rgI x6_16 → rgI x7_16 → gN sL16 = gN s → JJ F E 0 0 sL16 16 [(0, .ref (adE E 279)), (1, .int (jI x1)), (2, .int (jI x2)), (3, .int (jI x3)), (4, .int (jI x4)), (5, .int (jI x5_16)), (6, .int (jI x6_16)), (7, .int (jI x7_16))] []) (by
    intro x5_16 x6_16 x7_16 sL16 h g5_16 g6_16 g7_16 nL16
    have j292 : ∀ (x5 : Int) (x6 : Int) (x7 : Int) (sj : Sg), wj_X10_stretchesOf_292 (fun (x5_16 : Int) (x6_16 : Int) (x7_16 : Int) (sL16 : Sg) => rgI x5_16 → rgI x6_16 → rgI x7_16 → gN sL16 = gN s → JJ F E 0 0 sL16 16 [(0, .ref (adE E 279)), (1, .int (jI x1)), (2, .int (jI x2)), (3, .int (jI x3)), (4, .int (jI x4)), (5, .int (jI x5_16)), (6, .int (jI x6_16)), (7, .int (jI x7_16))] []) x1 x2 x3 x4 x5 x6 x7 sj Q → rgI x5 → rgI x6 → rgI x7 → gN sj = gN s → JJ F E 0 0 sj 292 [(0, .ref (adE E 279)), (1, .int (jI x1)), (2, .int (jI x2)), (3, .int (jI x3)), (4, .int (jI x4)), (5, .int (jI x5)), (6, .int (jI x6)), (7, .int (jI x7))] [] := by
      intro x5 x6 x7 sj h g5 g6 g7 nj
      refine J_iinc C dX10_stretchesOf_292 7 rfl (by decide) (lv' := [(7, .int (jI (x7 + 1))), (0, .ref (adE E 279)), (1, .int (jI x1)), (2, .int (jI x2)), (3, .int (jI x3)), (4, .int (jI x4)), (5, .int (jI x5)), (6, .int (jI x6))]) rfl ?_
      refine J_goto C (tgt := 16) dX10_stretchesOf_295 (by decide) ?_
      obtain ⟨g41, h⟩ := h
      exact J_sub [1, 2, 3, 4, 5, 6, 7, 0] rfl (h g5 g6 g41 nj)
    have j290 : ∀ (x5 : Int) (x7 : Int) (t0 : Int) (sj : Sg), wj_X10_stretchesOf_290 (fun (x5_16 : Int) (x6_16 : Int) (x7_16 : Int) (sL16 : Sg) => rgI x5_16 → rgI x6_16 → rgI x7_16 → gN sL16 = gN s → JJ F E 0 0 sL16 16 [(0, .ref (adE E 279)), (1, .int (jI x1)), (2, .int (jI x2)), (3, .int (jI x3)), (4, .int (jI x4)), (5, .int (jI x5_16)), (6, .int (jI x6_16)), (7, .int (jI x7_16))] []) x1 x2 x3 x4 x5 x7 t0 sj Q → rgI x5 → rgI x7 → rgI t0 → gN sj = gN s → JJ F E 0 0 sj 290 [(0, .ref (adE E 279)), (1, .int (jI x1)), (2, .int (jI x2)), (3, .int (jI x3)), (4, .int (jI x4)), (5, .int (jI x5)), (7, .int (jI x7))] [.int (jI t0)] := by
      intro x5 x7 t0 sj h g5 g7 gt0 nj
      refine J_istore C dX10_stretchesOf_290 (by decide) (lv' := [(6, .int (jI t0)), (0, .ref (adE E 279)), (1, .int (jI x1)), (2, .int (jI x2)), (3, .int (jI x3)), (4, .int (jI x4)), (5, .int (jI x5)), (7, .int (jI x7))]) rfl ?_
      exact J_sub [1, 2, 3, 4, 5, 6, 0, 7] rfl (j292 _ _ _ _ h g5 gt0 g7 nj)
    have j264 : ∀ (x7 : Int) (x8 : Int) (x9 : Int) (x10 : Int) (x11 : Int) (t0 : Int) (t1 : Int) (sj : Sg), wj_X10_stretchesOf_264 (fun (x5_16 : Int) (x6_16 : Int) (x7_16 : Int) (sL16 : Sg) => rgI x5_16 → rgI x6_16 → rgI x7_16 → gN sL16 = gN s → JJ F E 0 0 sL16 16 [(0, .ref (adE E 279)), (1, .int (jI x1)), (2, .int (jI x2)), (3, .int (jI x3)), (4, .int (jI x4)), (5, .int (jI x5_16)), (6, .int (jI x6_16)), (7, .int (jI x7_16))] []) x1 x2 x3 x4 x7 x8 x9 x10 x11 t0 t1 sj Q → rgI x7 → rgI x8 → rgI x9 → rgI x10 → rgI x11 → rgI t0 → rgI t1 → gN sj = gN s → JJ F E 0 0 sj 264 [(0, .ref (adE E 279)), (1, .int (jI x1)), (2, .int (jI x2)), (3, .int (jI x3)), (4, .int (jI x4)), (7, .int (jI x7)), (8, .int (jI x8)), (9, .int (jI x9)), (10, .int (jI x10)), (11, .int (jI x11))] [.int (jI t0), .int (jI t1), .ref (adE E 279)] := by
      intro x7 x8 x9 x10 x11 t0 t1 sj h g7 g8 g9 g10 g11 gt0 gt1 nj
      refine J_iadd C dX10_stretchesOf_264 ?_
      obtain ⟨g39, h⟩ := h
      refine pf_X10_stretchesMany C hs wf_X10_132 g39 dX10_stretchesOf_265 ?_
      obtain ⟨s37, f38⟩ : ∃ z : Sg, z = sI sj 279 16 (t1 + t0) := ⟨_, rfl⟩
      replace h := h s37 f38
      refine J_sig f38 ?_
      have n40 : gN s37 = gN s := by rw [f38]; exact nj
      refine J_iload C dX10_stretchesOf_268 9 rfl ?_
      refine J_istore C dX10_stretchesOf_270 (by decide) (lv' := [(5, .int (jI x11)), (0, .ref (adE E 279)), (1, .int (jI x1)), (2, .int (jI x2)), (3, .int (jI x3)), (4, .int (jI x4)), (7, .int (jI x7)), (8, .int (jI x8)), (9, .int (jI x9)), (10, .int (jI x10)), (11, .int (jI x11))]) rfl ?_
      refine J_iload C dX10_stretchesOf_272 9 rfl ?_
      refine J_if_eq C g10 (tgt := 288) dX10_stretchesOf_274 (by decide) (fun q43 => ?_) (fun q43 => ?_)
      · replace h := h.1 q43
        refine J_bipush C dX10_stretchesOf_288 (by decide) ?_
        exact J_sub [1, 2, 3, 4, 5, 0, 6] rfl (j290 _ _ _ _ h g11 g7 (rgN (-9) (by decide)) n40)
      · replace h := h.2 q43
        refine J_iload C dX10_stretchesOf_277 10 rfl ?_
        refine J_iload C dX10_stretchesOf_279 8 rfl ?_
        refine J_iadd C dX10_stretchesOf_281 ?_
        refine J_iload C dX10_stretchesOf_282 7 rfl ?_
        refine J_isub C dX10_stretchesOf_284 ?_
        refine J_goto C (tgt := 290) dX10_stretchesOf_285 (by decide) ?_
        obtain ⟨g42, h⟩ := h
        exact J_sub [1, 2, 3, 4, 5, 0, 6] rfl (j290 _ _ _ _ h g11 g7 g42 n40)
    have j247 : ∀ (x5 : Int) (x7 : Int) (x8 : Int) (x9 : Int) (x10 : Int) (x11 : Int) (sj : Sg), wj_X10_stretchesOf_247 (fun (x5_16 : Int) (x6_16 : Int) (x7_16 : Int) (sL16 : Sg) => rgI x5_16 → rgI x6_16 → rgI x7_16 → gN sL16 = gN s → JJ F E 0 0 sL16 16 [(0, .ref (adE E 279)), (1, .int (jI x1)), (2, .int (jI x2)), (3, .int (jI x3)), (4, .int (jI x4)), (5, .int (jI x5_16)), (6, .int (jI x6_16)), (7, .int (jI x7_16))] []) x1 x2 x3 x4 x5 x7 x8 x9 x10 x11 sj Q → rgI x5 → rgI x7 → rgI x8 → rgI x9 → rgI x10 → rgI x11 → gN sj = gN s → JJ F E 0 0 sj 247 [(0, .ref (adE E 279)), (1, .int (jI x1)), (2, .int (jI x2)), (3, .int (jI x3)), (4, .int (jI x4)), (5, .int (jI x5)), (7, .int (jI x7)), (8, .int (jI x8)), (9, .int (jI x9)), (10, .int (jI x10)), (11, .int (jI x11))] [] := by
      intro x5 x7 x8 x9 x10 x11 sj h g5 g7 g8 g9 g10 g11 nj
      refine J_aload_n C dX10_stretchesOf_247 rfl 0 rfl ?_
      refine J_dup C dX10_stretchesOf_248 rfl ?_
      refine gf_X10_stretchesMany C hs wf_X10_132 dX10_stretchesOf_249 (fun g36 => ?_)
      refine J_iload C dX10_stretchesOf_252 5 rfl ?_
      refine J_bipush C dX10_stretchesOf_254 (by decide) ?_
      refine J_icmp_eq C g5 (rgN (-9) (by decide)) (tgt := 263) dX10_stretchesOf_256 (by decide) (fun q44 => ?_) (fun q44 => ?_)
      · replace h := h.1 q44
        refine J_iconst C dX10_stretchesOf_263 ?_
        exact J_sub [0, 1, 2, 3, 4, 6, 7, 8, 9, 10] rfl (j264 _ _ _ _ _ _ _ _ h g7 g8 g9 g10 g11 (rgN 0 (by decide)) g36 nj)
      · replace h := h.2 q44
        refine J_iconst C dX10_stretchesOf_259 ?_
        refine J_goto C (tgt := 264) dX10_stretchesOf_260 (by decide) ?_
        exact J_sub [0, 1, 2, 3, 4, 6, 7, 8, 9, 10] rfl (j264 _ _ _ _ _ _ _ _ h g7 g8 g9 g10 g11 (rgN 1 (by decide)) g36 nj)
    have j226 : ∀ (x5 : Int) (x6 : Int) (x7 : Int) (x8 : Int) (x9 : Int) (x10 : Int) (x11 : Int) (sj : Sg), wj_X10_stretchesOf_226 (fun (x5_16 : Int) (x6_16 : Int) (x7_16 : Int) (sL16 : Sg) => rgI x5_16 → rgI x6_16 → rgI x7_16 → gN sL16 = gN s → JJ F E 0 0 sL16 16 [(0, .ref (adE E 279)), (1, .int (jI x1)), (2, .int (jI x2)), (3, .int (jI x3)), (4, .int (jI x4)), (5, .int (jI x5_16)), (6, .int (jI x6_16)), (7, .int (jI x7_16))] []) x1 x2 x3 x4 x5 x6 x7 x8 x9 x10 x11 sj Q → rgI x5 → rgI x6 → rgI x7 → rgI x8 → rgI x9 → rgI x10 → rgI x11 → gN sj = gN s → JJ F E 0 0 sj 226 [(0, .ref (adE E 279)), (1, .int (jI x1)), (2, .int (jI x2)), (3, .int (jI x3)), (4, .int (jI x4)), (5, .int (jI x5)), (6, .int (jI x6)), (7, .int (jI x7)), (8, .int (jI x8)), (9, .int (jI x9)), (10, .int (jI x10)), (11, .int (jI x11))] [] := by
      intro x5 x6 x7 x8 x9 x10 x11 sj h g5 g6 g7 g8 g9 g10 g11 nj
      refine J_iload C dX10_stretchesOf_226 5 rfl ?_
      refine J_bipush C dX10_stretchesOf_228 (by decide) ?_
      refine J_icmp_eq C g5 (rgN (-9) (by decide)) (tgt := 247) dX10_stretchesOf_230 (by decide) (fun q51 => ?_) (fun q51 => ?_)
      · replace h := h.1 q51
        exact J_sub [0, 1, 2, 3, 4, 5, 7, 8, 9, 10, 11] rfl (j247 _ _ _ _ _ _ _ h g5 g7 g8 g9 g10 g11 nj)
      · replace h := h.2 q51
        refine J_iload C dX10_stretchesOf_233 4 rfl ?_
        refine J_if_eq C g4 (tgt := 247) dX10_stretchesOf_235 (by decide) (fun q50 => ?_) (fun q50 => ?_)
        · replace h := h.1 q50
          exact J_sub [0, 1, 2, 3, 4, 5, 7, 8, 9, 10, 11] rfl (j247 _ _ _ _ _ _ _ h g5 g7 g8 g9 g10 g11 nj)
        · replace h := h.2 q50
          refine J_aload_n C dX10_stretchesOf_238 rfl 0 rfl ?_
          refine J_iload C dX10_stretchesOf_239 5 rfl ?_
          refine J_iload C dX10_stretchesOf_241 6 rfl ?_
          refine J_iload_n C dX10_stretchesOf_243 rfl 3 rfl ?_
          refine J_V C (ct_X10_inserts hs g5 g6 g3 h) ck_X10_inserts wm_X10_135 win_X10_inserts wsel_X10_inserts (dmM hs kc279 (by decide)) (clE_k E sj kc279) rfl ⟨rfl, rfl⟩ (by decide) (by decide) (As := [.int (jI x5), .int (jI x6), .int (jI x3)]) (rest := []) rfl rfl (Nat.le_of_ble_eq_true rfl) dX10_stretchesOf_244 (J_kV (fun s46 h n48 => ?_))
          have n49 : gN s46 = gN s := n48.trans (nj)
          exact J_sub [0, 1, 2, 3, 4, 5, 7, 8, 9, 10, 11] rfl (j247 _ _ _ _ _ _ _ h g5 g7 g8 g9 g10 g11 n49)
    have j203 : ∀ (x5 : Int) (x6 : Int) (x7 : Int) (x8 : Int) (x9 : Int) (x10 : Int) (x11 : Int) (sj : Sg), wj_X10_stretchesOf_203 (fun (x5_16 : Int) (x6_16 : Int) (x7_16 : Int) (sL16 : Sg) => rgI x5_16 → rgI x6_16 → rgI x7_16 → gN sL16 = gN s → JJ F E 0 0 sL16 16 [(0, .ref (adE E 279)), (1, .int (jI x1)), (2, .int (jI x2)), (3, .int (jI x3)), (4, .int (jI x4)), (5, .int (jI x5_16)), (6, .int (jI x6_16)), (7, .int (jI x7_16))] []) x1 x2 x3 x4 x5 x6 x7 x8 x9 x10 x11 sj Q → rgI x5 → rgI x6 → rgI x7 → rgI x8 → rgI x9 → rgI x10 → rgI x11 → gN sj = gN s → JJ F E 0 0 sj 203 [(0, .ref (adE E 279)), (1, .int (jI x1)), (2, .int (jI x2)), (3, .int (jI x3)), (4, .int (jI x4)), (5, .int (jI x5)), (6, .int (jI x6)), (7, .int (jI x7)), (8, .int (jI x8)), (9, .int (jI x9)), (10, .int (jI x10)), (11, .int (jI x11))] [] := by
      intro x5 x6 x7 x8 x9 x10 x11 sj h g5 g6 g7 g8 g9 g10 g11 nj
      refine J_iload C dX10_stretchesOf_203 5 rfl ?_
      refine J_bipush C dX10_stretchesOf_205 (by decide) ?_
      refine J_icmp_eq C g5 (rgN (-9) (by decide)) (tgt := 226) dX10_stretchesOf_207 (by decide) (fun q55 => ?_) (fun q55 => ?_)
      · replace h := h.1 q55
        exact J_sub [0, 1, 2, 3, 4, 5, 6, 7, 8, 9, 10, 11] rfl (j226 _ _ _ _ _ _ _ _ h g5 g6 g7 g8 g9 g10 g11 nj)
      · replace h := h.2 q55
        refine J_iload C dX10_stretchesOf_210 4 rfl ?_
        refine J_if_eq C g4 (tgt := 226) dX10_stretchesOf_212 (by decide) (fun q54 => ?_) (fun q54 => ?_)
        · replace h := h.1 q54
          exact J_sub [0, 1, 2, 3, 4, 5, 6, 7, 8, 9, 10, 11] rfl (j226 _ _ _ _ _ _ _ _ h g5 g6 g7 g8 g9 g10 g11 nj)
        · replace h := h.2 q54
          refine J_aload_n C dX10_stretchesOf_215 rfl 0 rfl ?_
          refine gf_X10_many C hs wf_X10_84 dX10_stretchesOf_216 (fun g52 => ?_)
          refine J_bipush C dX10_stretchesOf_219 (by decide) ?_
          refine J_icmp_ne C g52 (rgN 16 (by decide)) (tgt := 226) dX10_stretchesOf_221 (by decide) (fun q53 => ?_) (fun q53 => ?_)
          · replace h := h.2 q53
            exact J_sub [0, 1, 2, 3, 4, 5, 6, 7, 8, 9, 10, 11] rfl (j226 _ _ _ _ _ _ _ _ h g5 g6 g7 g8 g9 g10 g11 nj)
          · replace h := h.1 q53
            refine J_iconst C dX10_stretchesOf_224 ?_
            exact J_zret C (Nat.zero_le _) (Nat.zero_le _) (nar_z (Or.inl rfl)) dX10_stretchesOf_225 (by rw [hF]; exact ⟨_, rfl, (Or.inl rfl), h, nj⟩)
    have j187 : ∀ (x5 : Int) (x6 : Int) (x7 : Int) (x8 : Int) (x9 : Int) (x10 : Int) (x11 : Int) (sj : Sg), wj_X10_stretchesOf_187 (fun (x5_16 : Int) (x6_16 : Int) (x7_16 : Int) (sL16 : Sg) => rgI x5_16 → rgI x6_16 → rgI x7_16 → gN sL16 = gN s → JJ F E 0 0 sL16 16 [(0, .ref (adE E 279)), (1, .int (jI x1)), (2, .int (jI x2)), (3, .int (jI x3)), (4, .int (jI x4)), (5, .int (jI x5_16)), (6, .int (jI x6_16)), (7, .int (jI x7_16))] []) x1 x2 x3 x4 x5 x6 x7 x8 x9 x10 x11 sj Q → rgI x5 → rgI x6 → rgI x7 → rgI x8 → rgI x9 → rgI x10 → rgI x11 → gN sj = gN s → JJ F E 0 0 sj 187 [(0, .ref (adE E 279)), (1, .int (jI x1)), (2, .int (jI x2)), (3, .int (jI x3)), (4, .int (jI x4)), (5, .int (jI x5)), (6, .int (jI x6)), (7, .int (jI x7)), (8, .int (jI x8)), (9, .int (jI x9)), (10, .int (jI x10)), (11, .int (jI x11))] [] := by
      intro x5 x6 x7 x8 x9 x10 x11 sj h g5 g6 g7 g8 g9 g10 g11 nj
      refine J_iload C dX10_stretchesOf_187 10 rfl ?_
      refine J_if_ne C g10 (tgt := 203) dX10_stretchesOf_189 (by decide) (fun q60 => ?_) (fun q60 => ?_)
      · replace h := h.2 q60
        exact J_sub [0, 1, 2, 3, 4, 5, 6, 7, 8, 9, 10, 11] rfl (j203 _ _ _ _ _ _ _ _ h g5 g6 g7 g8 g9 g10 g11 nj)
      · replace h := h.1 q60
        refine J_iload C dX10_stretchesOf_192 7 rfl ?_
        refine J_aload_n C dX10_stretchesOf_194 rfl 0 rfl ?_
        refine gf_X10_page C hs wf_X10_7 dX10_stretchesOf_195 ?_
        refine J_iconst C dX10_stretchesOf_198 ?_
        obtain ⟨b56, b57, h⟩ := h
        refine J_iald C (dmM hs kc280 (by decide)) (n := 12960) (clE_k E sj kc280) (by decide) b56 b57 dX10_stretchesOf_199 (fun g58 => ?_)
        refine J_icmp_ne C g7 g58 (tgt := 292) dX10_stretchesOf_200 (by decide) (fun q59 => ?_) (fun q59 => ?_)
        · replace h := h.2 q59
          exact J_sub [0, 1, 2, 3, 4, 5, 6, 7] rfl (j292 _ _ _ _ h g5 g6 g7 nj)
        · replace h := h.1 q59
          exact J_sub [0, 1, 2, 3, 4, 5, 6, 7, 8, 9, 10, 11] rfl (j203 _ _ _ _ _ _ _ _ h g5 g6 g7 g8 g9 g10 g11 nj)
    have j160 : ∀ (x5 : Int) (x6 : Int) (x7 : Int) (x8 : Int) (x9 : Int) (x10 : Int) (t0 : Int) (sj : Sg), wj_X10_stretchesOf_160 (fun (x5_16 : Int) (x6_16 : Int) (x7_16 : Int) (sL16 : Sg) => rgI x5_16 → rgI x6_16 → rgI x7_16 → gN sL16 = gN s → JJ F E 0 0 sL16 16 [(0, .ref (adE E 279)), (1, .int (jI x1)), (2, .int (jI x2)), (3, .int (jI x3)), (4, .int (jI x4)), (5, .int (jI x5_16)), (6, .int (jI x6_16)), (7, .int (jI x7_16))] []) x1 x2 x3 x4 x5 x6 x7 x8 x9 x10 t0 sj Q → rgI x5 → rgI x6 → rgI x7 → rgI x8 → rgI x9 → rgI x10 → rgI t0 → gN sj = gN s → JJ F E 0 0 sj 160 [(0, .ref (adE E 279)), (1, .int (jI x1)), (2, .int (jI x2)), (3, .int (jI x3)), (4, .int (jI x4)), (5, .int (jI x5)), (6, .int (jI x6)), (7, .int (jI x7)), (8, .int (jI x8)), (9, .int (jI x9)), (10, .int (jI x10))] [.int (jI t0)] := by
      intro x5 x6 x7 x8 x9 x10 t0 sj h g5 g6 g7 g8 g9 g10 gt0 nj
      refine J_istore C dX10_stretchesOf_160 (by decide) (lv' := [(11, .int (jI t0)), (0, .ref (adE E 279)), (1, .int (jI x1)), (2, .int (jI x2)), (3, .int (jI x3)), (4, .int (jI x4)), (5, .int (jI x5)), (6, .int (jI x6)), (7, .int (jI x7)), (8, .int (jI x8)), (9, .int (jI x9)), (10, .int (jI x10))]) rfl ?_
      refine J_iload C dX10_stretchesOf_162 11 rfl ?_
      refine J_if_eq C g10 (tgt := 187) dX10_stretchesOf_164 (by decide) (fun q63 => ?_) (fun q63 => ?_)
      · replace h := h.1 q63
        exact J_sub [1, 2, 3, 4, 5, 6, 7, 8, 9, 10, 11, 0] rfl (j187 _ _ _ _ _ _ _ _ h g5 g6 g7 g8 g9 g10 gt0 nj)
      · replace h := h.2 q63
        refine J_iload C dX10_stretchesOf_167 0 rfl ?_
        refine J_iload C dX10_stretchesOf_169 7 rfl ?_
        refine J_icmp_ne C gt0 g6 (tgt := 187) dX10_stretchesOf_171 (by decide) (fun q62 => ?_) (fun q62 => ?_)
        · replace h := h.2 q62
          exact J_sub [1, 2, 3, 4, 5, 6, 7, 8, 9, 10, 11, 0] rfl (j187 _ _ _ _ _ _ _ _ h g5 g6 g7 g8 g9 g10 gt0 nj)
        · replace h := h.1 q62
          refine J_iload C dX10_stretchesOf_174 0 rfl ?_
          refine J_iload C dX10_stretchesOf_176 10 rfl ?_
          refine J_iadd C dX10_stretchesOf_178 ?_
          refine J_iload C dX10_stretchesOf_179 9 rfl ?_
          refine J_isub C dX10_stretchesOf_181 ?_
          obtain ⟨x6_182, e61⟩ : ∃ v : Int, v = ((t0 + x9) - x8) := ⟨_, rfl⟩
          obtain ⟨g6_182, h⟩ := h x6_182 e61
          refine J_top e61 ?_
          refine J_istore C dX10_stretchesOf_182 (by decide) (lv' := [(6, .int (jI x6_182)), (11, .int (jI t0)), (0, .ref (adE E 279)), (1, .int (jI x1)), (2, .int (jI x2)), (3, .int (jI x3)), (4, .int (jI x4)), (5, .int (jI x5)), (7, .int (jI x7)), (8, .int (jI x8)), (9, .int (jI x9)), (10, .int (jI x10))]) rfl ?_
          refine J_goto C (tgt := 292) dX10_stretchesOf_184 (by decide) ?_
          exact J_sub [2, 3, 4, 5, 6, 7, 0, 8] rfl (j292 _ _ _ _ h g5 g6_182 g7 nj)
    have j132 : ∀ (x5 : Int) (x6 : Int) (x7 : Int) (x8 : Int) (x9 : Int) (t0 : Int) (sj : Sg), wj_X10_stretchesOf_132 (fun (x5_16 : Int) (x6_16 : Int) (x7_16 : Int) (sL16 : Sg) => rgI x5_16 → rgI x6_16 → rgI x7_16 → gN sL16 = gN s → JJ F E 0 0 sL16 16 [(0, .ref (adE E 279)), (1, .int (jI x1)), (2, .int (jI x2)), (3, .int (jI x3)), (4, .int (jI x4)), (5, .int (jI x5_16)), (6, .int (jI x6_16)), (7, .int (jI x7_16))] []) x1 x2 x3 x4 x5 x6 x7 x8 x9 t0 sj Q → rgI x5 → rgI x6 → rgI x7 → rgI x8 → rgI x9 → rgI t0 → gN sj = gN s → JJ F E 0 0 sj 132 [(0, .ref (adE E 279)), (1, .int (jI x1)), (2, .int (jI x2)), (3, .int (jI x3)), (4, .int (jI x4)), (5, .int (jI x5)), (6, .int (jI x6)), (7, .int (jI x7)), (8, .int (jI x8)), (9, .int (jI x9))] [.int (jI t0)] := by
      intro x5 x6 x7 x8 x9 t0 sj h g5 g6 g7 g8 g9 gt0 nj
      refine J_istore C dX10_stretchesOf_132 (by decide) (lv' := [(10, .int (jI t0)), (0, .ref (adE E 279)), (1, .int (jI x1)), (2, .int (jI x2)), (3, .int (jI x3)), (4, .int (jI x4)), (5, .int (jI x5)), (6, .int (jI x6)), (7, .int (jI x7)), (8, .int (jI x8)), (9, .int (jI x9))]) rfl ?_
      refine J_iload C dX10_stretchesOf_134 0 rfl ?_
      refine J_if_eq C gt0 (tgt := 158) dX10_stretchesOf_136 (by decide) (fun q73 => ?_) (fun q73 => ?_)
      · replace h := h.1 q73
        refine J_bipush C dX10_stretchesOf_158 (by decide) ?_
        exact J_sub [1, 2, 3, 4, 5, 6, 7, 8, 9, 10, 0] rfl (j160 _ _ _ _ _ _ _ _ h g5 g6 g7 g8 g9 gt0 (rgN (-9) (by decide)) nj)
      · replace h := h.2 q73
        refine J_aload_n C dX10_stretchesOf_139 rfl 1 rfl ?_
        refine J_iload C dX10_stretchesOf_140 8 rfl ?_
        refine J_V C (ct_X10_pieceNew hs g7 h) ck_X10_pieceNew wm_X10_57 win_X10_pieceNew wsel_X10_pieceNew (dmM hs kc279 (by decide)) (clE_k E sj kc279) rfl ⟨rfl, rfl⟩ (by decide) (by decide) (As := [.int (jI x7)]) (rest := []) rfl rfl (Nat.le_of_ble_eq_true rfl) dX10_stretchesOf_142 (J_pI (fun v64 g66 h => ?_))
        refine J_iload C dX10_stretchesOf_145 9 rfl ?_
        refine J_iadd C dX10_stretchesOf_147 ?_
        refine J_aload_n C dX10_stretchesOf_148 rfl 1 rfl ?_
        refine J_iload C dX10_stretchesOf_149 8 rfl ?_
        refine J_V C (ct_X10_pieceFirst hs g7 h) ck_X10_pieceFirst wm_X10_75 win_X10_pieceFirst wsel_X10_pieceFirst (dmM hs kc279 (by decide)) (clE_k E sj kc279) rfl ⟨rfl, rfl⟩ (by decide) (by decide) (As := [.int (jI x7)]) (rest := [.int (jI (v64 + x8))]) rfl rfl (Nat.le_of_ble_eq_true rfl) dX10_stretchesOf_151 (J_pI (fun v68 g70 h => ?_))
        refine J_isub C dX10_stretchesOf_154 ?_
        refine J_goto C (tgt := 160) dX10_stretchesOf_155 (by decide) ?_
        obtain ⟨g72, h⟩ := h
        exact J_sub [1, 2, 3, 4, 5, 6, 7, 8, 9, 10, 0] rfl (j160 _ _ _ _ _ _ _ _ h g5 g6 g7 g8 g9 gt0 g72 nj)
    have j131 : ∀ (x5 : Int) (x6 : Int) (x7 : Int) (x8 : Int) (x9 : Int) (sj : Sg), wj_X10_stretchesOf_131 (fun (x5_16 : Int) (x6_16 : Int) (x7_16 : Int) (sL16 : Sg) => rgI x5_16 → rgI x6_16 → rgI x7_16 → gN sL16 = gN s → JJ F E 0 0 sL16 16 [(0, .ref (adE E 279)), (1, .int (jI x1)), (2, .int (jI x2)), (3, .int (jI x3)), (4, .int (jI x4)), (5, .int (jI x5_16)), (6, .int (jI x6_16)), (7, .int (jI x7_16))] []) x1 x2 x3 x4 x5 x6 x7 x8 x9 sj Q → rgI x5 → rgI x6 → rgI x7 → rgI x8 → rgI x9 → gN sj = gN s → JJ F E 0 0 sj 131 [(0, .ref (adE E 279)), (1, .int (jI x1)), (2, .int (jI x2)), (3, .int (jI x3)), (4, .int (jI x4)), (5, .int (jI x5)), (6, .int (jI x6)), (7, .int (jI x7)), (8, .int (jI x8)), (9, .int (jI x9))] [] := by
      intro x5 x6 x7 x8 x9 sj h g5 g6 g7 g8 g9 nj
      refine J_iconst C dX10_stretchesOf_131 ?_
      exact J_sub [0, 1, 2, 3, 4, 5, 6, 7, 8, 9] rfl (j132 _ _ _ _ _ _ _ h g5 g6 g7 g8 g9 (rgN 0 (by decide)) nj)
    have j105 : ∀ (x5 : Int) (x6 : Int) (x7 : Int) (x8 : Int) (t0 : Int) (sj : Sg), wj_X10_stretchesOf_105 (fun (x5_16 : Int) (x6_16 : Int) (x7_16 : Int) (sL16 : Sg) => rgI x5_16 → rgI x6_16 → rgI x7_16 → gN sL16 = gN s → JJ F E 0 0 sL16 16 [(0, .ref (adE E 279)), (1, .int (jI x1)), (2, .int (jI x2)), (3, .int (jI x3)), (4, .int (jI x4)), (5, .int (jI x5_16)), (6, .int (jI x6_16)), (7, .int (jI x7_16))] []) x1 x2 x3 x4 x5 x6 x7 x8 t0 sj Q → rgI x5 → rgI x6 → rgI x7 → rgI x8 → rgI t0 → gN sj = gN s → JJ F E 0 0 sj 105 [(0, .ref (adE E 279)), (1, .int (jI x1)), (2, .int (jI x2)), (3, .int (jI x3)), (4, .int (jI x4)), (5, .int (jI x5)), (6, .int (jI x6)), (7, .int (jI x7)), (8, .int (jI x8))] [.int (jI t0)] := by
      intro x5 x6 x7 x8 t0 sj h g5 g6 g7 g8 gt0 nj
      refine J_istore C dX10_stretchesOf_105 (by decide) (lv' := [(9, .int (jI t0)), (0, .ref (adE E 279)), (1, .int (jI x1)), (2, .int (jI x2)), (3, .int (jI x3)), (4, .int (jI x4)), (5, .int (jI x5)), (6, .int (jI x6)), (7, .int (jI x7)), (8, .int (jI x8))]) rfl ?_
      refine J_iload C dX10_stretchesOf_107 8 rfl ?_
      refine J_aload_n C dX10_stretchesOf_109 rfl 1 rfl ?_
      refine gf_X10_page C hs wf_X10_7 dX10_stretchesOf_110 ?_
      refine J_iconst C dX10_stretchesOf_113 ?_
      obtain ⟨b33, b34, h⟩ := h
      refine J_iald C (dmM hs kc280 (by decide)) (n := 12960) (clE_k E sj kc280) (by decide) b33 b34 dX10_stretchesOf_114 (fun g35 => ?_)
      refine J_icmp_ge C g7 g35 (tgt := 131) dX10_stretchesOf_115 (by decide) (fun q76 => ?_) (fun q76 => ?_)
      · replace h := h.1 q76
        exact J_sub [1, 2, 3, 4, 5, 6, 7, 8, 9, 0] rfl (j131 _ _ _ _ _ _ h g5 g6 g7 g8 gt0 nj)
      · replace h := h.2 q76
        refine J_iload C dX10_stretchesOf_118 0 rfl ?_
        refine J_iload C dX10_stretchesOf_120 9 rfl ?_
        refine J_isub C dX10_stretchesOf_122 ?_
        refine J_iconst C dX10_stretchesOf_123 ?_
        obtain ⟨g74, h⟩ := h
        refine J_icmp_lt C g74 (rgN 4 (by decide)) (tgt := 131) dX10_stretchesOf_124 (by decide) (fun q75 => ?_) (fun q75 => ?_)
        · replace h := h.1 q75
          exact J_sub [1, 2, 3, 4, 5, 6, 7, 8, 9, 0] rfl (j131 _ _ _ _ _ _ h g5 g6 g7 g8 gt0 nj)
        · replace h := h.2 q75
          refine J_iconst C dX10_stretchesOf_127 ?_
          refine J_goto C (tgt := 132) dX10_stretchesOf_128 (by decide) ?_
          exact J_sub [1, 2, 3, 4, 5, 6, 7, 8, 9, 0] rfl (j132 _ _ _ _ _ _ _ h g5 g6 g7 g8 gt0 (rgN 1 (by decide)) nj)
    have j104 : ∀ (x5 : Int) (x6 : Int) (x7 : Int) (x8 : Int) (sj : Sg), wj_X10_stretchesOf_104 (fun (x5_16 : Int) (x6_16 : Int) (x7_16 : Int) (sL16 : Sg) => rgI x5_16 → rgI x6_16 → rgI x7_16 → gN sL16 = gN s → JJ F E 0 0 sL16 16 [(0, .ref (adE E 279)), (1, .int (jI x1)), (2, .int (jI x2)), (3, .int (jI x3)), (4, .int (jI x4)), (5, .int (jI x5_16)), (6, .int (jI x6_16)), (7, .int (jI x7_16))] []) x1 x2 x3 x4 x5 x6 x7 x8 sj Q → rgI x5 → rgI x6 → rgI x7 → rgI x8 → gN sj = gN s → JJ F E 0 0 sj 104 [(0, .ref (adE E 279)), (1, .int (jI x1)), (2, .int (jI x2)), (3, .int (jI x3)), (4, .int (jI x4)), (5, .int (jI x5)), (6, .int (jI x6)), (7, .int (jI x7)), (8, .int (jI x8))] [] := by
      intro x5 x6 x7 x8 sj h g5 g6 g7 g8 nj
      refine J_iload_n C dX10_stretchesOf_104 rfl 2 rfl ?_
      exact J_sub [0, 1, 2, 3, 4, 5, 6, 7, 8] rfl (j105 _ _ _ _ _ _ h g5 g6 g7 g8 g2 nj)
    have j58 : ∀ (x5 : Int) (x6 : Int) (x7 : Int) (t0 : Int) (sj : Sg), wj_X10_stretchesOf_58 (fun (x5_16 : Int) (x6_16 : Int) (x7_16 : Int) (sL16 : Sg) => rgI x5_16 → rgI x6_16 → rgI x7_16 → gN sL16 = gN s → JJ F E 0 0 sL16 16 [(0, .ref (adE E 279)), (1, .int (jI x1)), (2, .int (jI x2)), (3, .int (jI x3)), (4, .int (jI x4)), (5, .int (jI x5_16)), (6, .int (jI x6_16)), (7, .int (jI x7_16))] []) x1 x2 x3 x4 x5 x6 x7 t0 sj Q → rgI x5 → rgI x6 → rgI x7 → rgI t0 → gN sj = gN s → JJ F E 0 0 sj 58 [(0, .ref (adE E 279)), (1, .int (jI x1)), (2, .int (jI x2)), (3, .int (jI x3)), (4, .int (jI x4)), (5, .int (jI x5)), (6, .int (jI x6)), (7, .int (jI x7))] [.int (jI t0)] := by
      intro x5 x6 x7 t0 sj h g5 g6 g7 gt0 nj
      refine J_istore C dX10_stretchesOf_58 (by decide) (lv' := [(8, .int (jI t0)), (0, .ref (adE E 279)), (1, .int (jI x1)), (2, .int (jI x2)), (3, .int (jI x3)), (4, .int (jI x4)), (5, .int (jI x5)), (6, .int (jI x6)), (7, .int (jI x7))]) rfl ?_
      refine J_iload C dX10_stretchesOf_60 8 rfl ?_
      refine J_aload_n C dX10_stretchesOf_62 rfl 1 rfl ?_
      refine gf_X10_page C hs wf_X10_7 dX10_stretchesOf_63 ?_
      refine J_iconst C dX10_stretchesOf_66 ?_
      obtain ⟨b30, b31, h⟩ := h
      refine J_iald C (dmM hs kc280 (by decide)) (n := 12960) (clE_k E sj kc280) (by decide) b30 b31 dX10_stretchesOf_67 (fun g32 => ?_)
      refine J_icmp_ge C g7 g32 (tgt := 104) dX10_stretchesOf_68 (by decide) (fun q96 => ?_) (fun q96 => ?_)
      · replace h := h.1 q96
        exact J_sub [1, 2, 3, 4, 5, 6, 7, 8, 0] rfl (j104 _ _ _ _ _ h g5 g6 g7 gt0 nj)
      · replace h := h.2 q96
        refine J_aload_n C dX10_stretchesOf_71 rfl 1 rfl ?_
        refine J_iload C dX10_stretchesOf_72 8 rfl ?_
        refine J_V C (ct_X10_pieceFirst hs g7 h) ck_X10_pieceFirst wm_X10_75 win_X10_pieceFirst wsel_X10_pieceFirst (dmM hs kc279 (by decide)) (clE_k E sj kc279) rfl ⟨rfl, rfl⟩ (by decide) (by decide) (As := [.int (jI x7)]) (rest := []) rfl rfl (Nat.le_of_ble_eq_true rfl) dX10_stretchesOf_74 (J_pI (fun v77 g79 h => ?_))
        refine J_aload_n C dX10_stretchesOf_77 rfl 1 rfl ?_
        refine J_iload C dX10_stretchesOf_78 8 rfl ?_
        refine J_V C (ct_X10_pieceLong hs g7 h) ck_X10_pieceLong wm_X10_53 win_X10_pieceLong wsel_X10_pieceLong (dmM hs kc279 (by decide)) (clE_k E sj kc279) rfl ⟨rfl, rfl⟩ (by decide) (by decide) (As := [.int (jI x7)]) (rest := [.int (jI v77)]) rfl rfl (Nat.le_of_ble_eq_true rfl) dX10_stretchesOf_80 (J_pI (fun v81 g83 h => ?_))
        refine J_iadd C dX10_stretchesOf_83 ?_
        refine J_iload_n C dX10_stretchesOf_84 rfl 3 rfl ?_
        obtain ⟨g85, h⟩ := h
        refine J_icmp_ge C g85 g2 (tgt := 104) dX10_stretchesOf_85 (by decide) (fun q95 => ?_) (fun q95 => ?_)
        · replace h := h.1 q95
          exact J_sub [1, 2, 3, 4, 5, 6, 7, 8, 0] rfl (j104 _ _ _ _ _ h g5 g6 g7 gt0 nj)
        · replace h := h.2 q95
          refine J_aload_n C dX10_stretchesOf_88 rfl 1 rfl ?_
          refine J_iload C dX10_stretchesOf_89 8 rfl ?_
          refine J_V C (ct_X10_pieceFirst hs g7 h) ck_X10_pieceFirst wm_X10_75 win_X10_pieceFirst wsel_X10_pieceFirst (dmM hs kc279 (by decide)) (clE_k E sj kc279) rfl ⟨rfl, rfl⟩ (by decide) (by decide) (As := [.int (jI x7)]) (rest := []) rfl rfl (Nat.le_of_ble_eq_true rfl) dX10_stretchesOf_91 (J_pI (fun v86 g88 h => ?_))
          refine J_aload_n C dX10_stretchesOf_94 rfl 1 rfl ?_
          refine J_iload C dX10_stretchesOf_95 8 rfl ?_
          refine J_V C (ct_X10_pieceLong hs g7 h) ck_X10_pieceLong wm_X10_53 win_X10_pieceLong wsel_X10_pieceLong (dmM hs kc279 (by decide)) (clE_k E sj kc279) rfl ⟨rfl, rfl⟩ (by decide) (by decide) (As := [.int (jI x7)]) (rest := [.int (jI v86)]) rfl rfl (Nat.le_of_ble_eq_true rfl) dX10_stretchesOf_97 (J_pI (fun v90 g92 h => ?_))
          refine J_iadd C dX10_stretchesOf_100 ?_
          refine J_goto C (tgt := 105) dX10_stretchesOf_101 (by decide) ?_
          obtain ⟨g94, h⟩ := h
          exact J_sub [1, 2, 3, 4, 5, 6, 7, 8, 0] rfl (j105 _ _ _ _ _ _ h g5 g6 g7 gt0 g94 nj)
    have j57 : ∀ (x5 : Int) (x6 : Int) (x7 : Int) (sj : Sg), wj_X10_stretchesOf_57 (fun (x5_16 : Int) (x6_16 : Int) (x7_16 : Int) (sL16 : Sg) => rgI x5_16 → rgI x6_16 → rgI x7_16 → gN sL16 = gN s → JJ F E 0 0 sL16 16 [(0, .ref (adE E 279)), (1, .int (jI x1)), (2, .int (jI x2)), (3, .int (jI x3)), (4, .int (jI x4)), (5, .int (jI x5_16)), (6, .int (jI x6_16)), (7, .int (jI x7_16))] []) x1 x2 x3 x4 x5 x6 x7 sj Q → rgI x5 → rgI x6 → rgI x7 → gN sj = gN s → JJ F E 0 0 sj 57 [(0, .ref (adE E 279)), (1, .int (jI x1)), (2, .int (jI x2)), (3, .int (jI x3)), (4, .int (jI x4)), (5, .int (jI x5)), (6, .int (jI x6)), (7, .int (jI x7))] [] := by
      intro x5 x6 x7 sj h g5 g6 g7 nj
      refine J_iload_n C dX10_stretchesOf_57 rfl 1 rfl ?_
      exact J_sub [0, 1, 2, 3, 4, 5, 6, 7] rfl (j58 _ _ _ _ _ h g5 g6 g7 g1 nj)
    refine J_iload C dX10_stretchesOf_16 7 rfl ?_
    refine J_aload_n C dX10_stretchesOf_18 rfl 0 rfl ?_
    refine gf_X10_page C hs wf_X10_7 dX10_stretchesOf_19 ?_
    refine J_iconst C dX10_stretchesOf_22 ?_
    obtain ⟨b24, b25, h⟩ := h
    refine J_iald C (dmM hs kc280 (by decide)) (n := 12960) (clE_k E sL16 kc280) (by decide) b24 b25 dX10_stretchesOf_23 (fun g26 => ?_)
    refine J_icmp_gt C g7_16 g26 (tgt := 298) dX10_stretchesOf_24 (by decide) (fun q107 => ?_) (fun q107 => ?_)
    · replace h := h.1 q107
      refine J_iconst C dX10_stretchesOf_298 ?_
      exact J_zret C (Nat.zero_le _) (Nat.zero_le _) (nar_z (Or.inr rfl)) dX10_stretchesOf_299 (by rw [hF]; exact ⟨_, rfl, (Or.inr rfl), h, nL16⟩)
    · replace h := h.2 q107
      refine J_iload C dX10_stretchesOf_27 7 rfl ?_
      refine J_aload_n C dX10_stretchesOf_29 rfl 0 rfl ?_
      refine gf_X10_page C hs wf_X10_7 dX10_stretchesOf_30 ?_
      refine J_iconst C dX10_stretchesOf_33 ?_
      obtain ⟨b27, b28, h⟩ := h
      refine J_iald C (dmM hs kc280 (by decide)) (n := 12960) (clE_k E sL16 kc280) (by decide) b27 b28 dX10_stretchesOf_34 (fun g29 => ?_)
      refine J_icmp_ge C g7_16 g29 (tgt := 57) dX10_stretchesOf_35 (by decide) (fun q106 => ?_) (fun q106 => ?_)
      · replace h := h.1 q106
        exact J_sub [0, 1, 2, 3, 4, 5, 6, 7] rfl (j57 _ _ _ _ h g5_16 g6_16 g7_16 nL16)
      · replace h := h.2 q106
        refine J_aload_n C dX10_stretchesOf_38 rfl 0 rfl ?_
        refine J_iload C dX10_stretchesOf_39 7 rfl ?_
        refine J_V C (ct_X10_pieceFirst hs g7_16 h) ck_X10_pieceFirst wm_X10_75 win_X10_pieceFirst wsel_X10_pieceFirst (dmM hs kc279 (by decide)) (clE_k E sL16 kc279) rfl ⟨rfl, rfl⟩ (by decide) (by decide) (As := [.int (jI x7_16)]) (rest := []) rfl rfl (Nat.le_of_ble_eq_true rfl) dX10_stretchesOf_41 (J_pI (fun v97 g99 h => ?_))
        refine J_iload_n C dX10_stretchesOf_44 rfl 1 rfl ?_
        refine J_icmp_le C g99 g1 (tgt := 57) dX10_stretchesOf_45 (by decide) (fun q105 => ?_) (fun q105 => ?_)
        · replace h := h.1 q105
          exact J_sub [0, 1, 2, 3, 4, 5, 6, 7] rfl (j57 _ _ _ _ h g5_16 g6_16 g7_16 nL16)
        · replace h := h.2 q105
          refine J_aload_n C dX10_stretchesOf_48 rfl 0 rfl ?_
          refine J_iload C dX10_stretchesOf_49 7 rfl ?_
          refine J_V C (ct_X10_pieceFirst hs g7_16 h) ck_X10_pieceFirst wm_X10_75 win_X10_pieceFirst wsel_X10_pieceFirst (dmM hs kc279 (by decide)) (clE_k E sL16 kc279) rfl ⟨rfl, rfl⟩ (by decide) (by decide) (As := [.int (jI x7_16)]) (rest := []) rfl rfl (Nat.le_of_ble_eq_true rfl) dX10_stretchesOf_51 (J_pI (fun v101 g103 h => ?_))
          refine J_goto C (tgt := 58) dX10_stretchesOf_54 (by decide) ?_
          exact J_sub [0, 1, 2, 3, 4, 5, 6, 7] rfl (j58 _ _ _ _ _ h g5_16 g6_16 g7_16 g103 nL16)
  )
  exact J_sub [3, 4, 5, 6, 7, 2, 1, 0] rfl (h (rgN (-9) (by decide)) (rgN (-9) (by decide)) (rgN 0 (by decide)) n23)
set_option maxHeartbeats 4000000 in
set_option maxRecDepth 100000 in
theorem ct_X10_maps {l : Launch} {E : ET} (hs : eS E = false) {s : Sg} {Q : Int → Sg → Prop} (h : wp_X10_maps s Q) : MetE l E yX10_maps cX10_maps 3 (some .boolean) rm_X10_maps s [.ref (adE E 279)] (qZ Q (gN s)) := by
  refine MetJ (by decide +kernel) (Nat.le_of_ble_eq_true rfl) ?_
  intro F hl C hF
  subst hl
  show JJ F E 0 0 s 0 [(0, .ref (adE E 279))] []
  refine J_aload_n C dX10_maps_0 rfl 0 rfl ?_
  refine gf_X10_many C hs wf_X10_84 dX10_maps_1 (fun g21 => ?_)
  obtain ⟨x1_4, e22⟩ : ∃ v : Int, v = (gI s 279 9) := ⟨_, rfl⟩
  replace h := h x1_4 e22
  have g1_4 : rgI x1_4 := by rw [e22]; exact g21
  refine J_top e22 ?_
  refine J_istore_n C dX10_maps_4 rfl (by decide) (lv' := [(1, .int (jI x1_4)), (0, .ref (adE E 279))]) rfl ?_
  refine J_aload_n C dX10_maps_5 rfl 1 rfl ?_
  refine J_V C (ct_X10_empties hs h) ck_X10_empties wm_X10_139 win_X10_empties wsel_X10_empties (dmM hs kc279 (by decide)) (clE_k E s kc279) rfl ⟨rfl, rfl⟩ (by decide) (by decide) (As := []) (rest := []) rfl rfl (Nat.le_of_ble_eq_true rfl) dX10_maps_6 (J_kV (fun s24 h n26 => ?_))
  have n27 : gN s24 = gN s := n26
  refine J_aload_n C dX10_maps_9 rfl 1 rfl ?_
  refine J_iconst C dX10_maps_10 ?_
  refine pf_X10_lost C hs wf_X10_142 (rgN 0 (by decide)) dX10_maps_11 ?_
  obtain ⟨s28, f29⟩ : ∃ z : Sg, z = sI s24 279 17 0 := ⟨_, rfl⟩
  replace h := h s28 f29
  refine J_sig f29 ?_
  have n30 : gN s28 = gN s := by rw [f29]; exact n27
  refine J_iconst C dX10_maps_14 ?_
  refine J_istore_n C dX10_maps_15 rfl (by decide) (lv' := [(2, .int (jI 0)), (1, .int (jI x1_4)), (0, .ref (adE E 279))]) rfl ?_
  replace h := h (fun (x2_16 : Int) (sL16 : Sg) => rgI x2_16 → gN sL16 = gN s → JJ F E 0 0 sL16 16 [(0, .ref (adE E 279)), (1, .int (jI x1_4)), (2, .int (jI x2_16))] []) (by
    intro x2_16 sL16 h g2_16 nL16
    have j61 : ∀ (x2 : Int) (t0 : Int) (t1 : Int) (sj : Sg), wj_X10_maps_61 (fun (x2_16 : Int) (sL16 : Sg) => rgI x2_16 → gN sL16 = gN s → JJ F E 0 0 sL16 16 [(0, .ref (adE E 279)), (1, .int (jI x1_4)), (2, .int (jI x2_16))] []) x1_4 x2 t0 t1 sj Q → rgI x2 → rgI t0 → rgI t1 → gN sj = gN s → JJ F E 0 0 sj 61 [(0, .ref (adE E 279)), (1, .int (jI x1_4)), (2, .int (jI x2))] [.int (jI t0), .int (jI t1), .ref (adE E 279)] := by
      intro x2 t0 t1 sj h g2 gt0 gt1 nj
      refine J_iadd C dX10_maps_61 ?_
      obtain ⟨g46, h⟩ := h
      refine pf_X10_lost C hs wf_X10_142 g46 dX10_maps_62 ?_
      obtain ⟨s44, f45⟩ : ∃ z : Sg, z = sI sj 279 17 (t1 + t0) := ⟨_, rfl⟩
      replace h := h s44 f45
      refine J_sig f45 ?_
      have n47 : gN s44 = gN s := by rw [f45]; exact nj
      refine J_iinc C dX10_maps_65 2 rfl (by decide) (lv' := [(2, .int (jI (x2 + 1))), (0, .ref (adE E 279)), (1, .int (jI x1_4))]) rfl ?_
      refine J_goto C (tgt := 16) dX10_maps_68 (by decide) ?_
      obtain ⟨g48, h⟩ := h
      exact J_sub [1, 2, 0] rfl (h g48 n47)
    refine J_iload_n C dX10_maps_16 rfl 2 rfl ?_
    refine J_iload_n C dX10_maps_17 rfl 1 rfl ?_
    refine J_icmp_ge C g2_16 g1_4 (tgt := 71) dX10_maps_18 (by decide) (fun q51 => ?_) (fun q51 => ?_)
    · replace h := h.1 q51
      refine J_iconst C dX10_maps_71 ?_
      exact J_zret C (Nat.zero_le _) (Nat.zero_le _) (nar_z (Or.inr rfl)) dX10_maps_72 (by rw [hF]; exact ⟨_, rfl, (Or.inr rfl), h, nL16⟩)
    · replace h := h.2 q51
      refine J_aload_n C dX10_maps_21 rfl 0 rfl ?_
      refine J_aload_n C dX10_maps_22 rfl 0 rfl ?_
      refine gf_X10_oldBegins C hs wf_X10_31 dX10_maps_23 ?_
      refine J_iload_n C dX10_maps_26 rfl 2 rfl ?_
      obtain ⟨b31, b32, h⟩ := h
      refine J_iald C (dmM hs kc287 (by decide)) (n := 16) (clE_k E sL16 kc287) (by decide) b31 b32 dX10_maps_27 (fun g33 => ?_)
      refine J_aload_n C dX10_maps_28 rfl 0 rfl ?_
      refine gf_X10_oldEnds C hs wf_X10_34 dX10_maps_29 ?_
      refine J_iload_n C dX10_maps_32 rfl 2 rfl ?_
      obtain ⟨b34, b35, h⟩ := h
      refine J_iald C (dmM hs kc288 (by decide)) (n := 16) (clE_k E sL16 kc288) (by decide) b34 b35 dX10_maps_33 (fun g36 => ?_)
      refine J_iload_n C dX10_maps_34 rfl 2 rfl ?_
      refine J_iconst C dX10_maps_35 ?_
      refine J_V C (ct_X10_stretchesOf hs g33 g36 g2_16 (rgN 1 (by decide)) h) ck_X10_stretchesOf wm_X10_145 win_X10_stretchesOf wsel_X10_stretchesOf (dmM hs kc279 (by decide)) (clE_k E sL16 kc279) rfl ⟨rfl, rfl⟩ (by decide) (by decide) (As := [.int (jI (gI sL16 287 x2_16)), .int (jI (gI sL16 288 x2_16)), .int (jI x2_16), .int (jI 1)]) (rest := []) rfl rfl (Nat.le_of_ble_eq_true rfl) dX10_maps_36 (J_kZ (fun v37 s38 g39 h n40 => ?_))
      have n41 : gN s38 = gN s := n40.trans (nL16)
      refine J_if_ne C (rg_z g39) (tgt := 44) dX10_maps_39 (by decide) (fun q50 => ?_) (fun q50 => ?_)
      · replace h := h.2 q50
        refine J_aload_n C dX10_maps_44 rfl 0 rfl ?_
        refine J_dup C dX10_maps_45 rfl ?_
        refine gf_X10_lost C hs wf_X10_142 dX10_maps_46 (fun g42 => ?_)
        refine J_aload_n C dX10_maps_49 rfl 0 rfl ?_
        refine gf_X10_stretchesMany C hs wf_X10_132 dX10_maps_50 (fun g43 => ?_)
        refine J_if_ne C g43 (tgt := 60) dX10_maps_53 (by decide) (fun q49 => ?_) (fun q49 => ?_)
        · replace h := h.2 q49
          refine J_iconst C dX10_maps_60 ?_
          exact J_sub [0, 1, 2] rfl (j61 _ _ _ _ h g2_16 (rgN 0 (by decide)) g42 n41)
        · replace h := h.1 q49
          refine J_iconst C dX10_maps_56 ?_
          refine J_goto C (tgt := 61) dX10_maps_57 (by decide) ?_
          exact J_sub [0, 1, 2] rfl (j61 _ _ _ _ h g2_16 (rgN 1 (by decide)) g42 n41)
      · replace h := h.1 q50
        refine J_iconst C dX10_maps_42 ?_
        exact J_zret C (Nat.zero_le _) (Nat.zero_le _) (nar_z (Or.inl rfl)) dX10_maps_43 (by rw [hF]; exact ⟨_, rfl, (Or.inl rfl), h, n41⟩)
  )
  exact J_sub [2, 1, 0] rfl (h (rgN 0 (by decide)) n30)
set_option maxHeartbeats 4000000 in
set_option maxRecDepth 100000 in
theorem ct_X10_speakerOf {l : Launch} {E : ET} (hs : eS E = false) {s : Sg} {x1 : Int} (g1 : rgI x1) {Q : Int → Prop} (h : wp_X10_speakerOf x1 s Q) : MetE l E yX10_speakerOf cX10_speakerOf 2 (some .int) rm_X10_speakerOf s [.ref (adE E 279), .int (jI x1)] (qI (fun r t => Q r ∧ t = s) (gN s)) := by
  refine MetJ (by decide +kernel) (Nat.le_of_ble_eq_true rfl) ?_
  intro F hl C hF
  subst hl
  show JJ F E 0 0 s 0 [(0, .ref (adE E 279)), (1, .int (jI x1))] []
  refine J_aload_n C dX10_speakerOf_0 rfl 0 rfl ?_
  refine gf_X10_page C hs wf_X10_7 dX10_speakerOf_1 ?_
  refine J_aload_n C dX10_speakerOf_4 rfl 0 rfl ?_
  refine J_iload_n C dX10_speakerOf_5 rfl 1 rfl ?_
  refine J_V C (ct_X10_partAt hs g1 h) ck_X10_partAt wm_X10_91 win_X10_partAt wsel_X10_partAt (dmM hs kc279 (by decide)) (clE_k E s kc279) rfl ⟨rfl, rfl⟩ (by decide) (by decide) (As := [.int (jI x1)]) (rest := [.ref (adE E 280)]) rfl rfl (Nat.le_of_ble_eq_true rfl) dX10_speakerOf_6 (J_pI (fun v21 g23 h => ?_))
  obtain ⟨b25, b26, h⟩ := h
  refine J_iald C (dmM hs kc280 (by decide)) (n := 12960) (clE_k E s kc280) (by decide) b25 b26 dX10_speakerOf_9 (fun g27 => ?_)
  exact J_iret C (Nat.zero_le _) (Nat.zero_le _) dX10_speakerOf_10 (by rw [hF]; exact ⟨_, rfl, g27, ⟨h, rfl⟩, rfl⟩)
set_option maxHeartbeats 4000000 in
set_option maxRecDepth 100000 in
theorem ct_X10_areOne {l : Launch} {E : ET} (hs : eS E = false) {s : Sg} {x1 : Int} (g1 : rgI x1) {Q : Int → Prop} (h : wp_X10_areOne x1 s Q) : MetE l E yX10_areOne cX10_areOne 6 (some .boolean) rm_X10_areOne s [.ref (adE E 279), .int (jI x1)] (qZ (fun r t => Q r ∧ t = s) (gN s)) := by
  refine MetJ (by decide +kernel) (Nat.le_of_ble_eq_true rfl) ?_
  intro F hl C hF
  subst hl
  show JJ F E 0 0 s 0 [(0, .ref (adE E 279)), (1, .int (jI x1))] []
  have j138 : ∀ (t0 : Int) (t1 : Int), wj_X10_areOne_138   t0 t1 s Q → rgI t0 → rgI t1 → JJ F E 0 0 s 138 [] [.int (jI t0), .int (jI t1)] := by
    intro t0 t1 h gt0 gt1
    refine J_icmp_lt C gt1 gt0 (tgt := 145) dX10_areOne_138 (by decide) (fun q69 => ?_) (fun q69 => ?_)
    · replace h := h.1 q69
      refine J_iconst C dX10_areOne_145 ?_
      exact J_zret C (Nat.zero_le _) (Nat.zero_le _) (nar_z (Or.inl rfl)) dX10_areOne_146 (by rw [hF]; exact ⟨_, rfl, (Or.inl rfl), ⟨h, rfl⟩, rfl⟩)
    · replace h := h.2 q69
      refine J_iconst C dX10_areOne_141 ?_
      refine J_goto C (tgt := 146) dX10_areOne_142 (by decide) ?_
      exact J_zret C (Nat.zero_le _) (Nat.zero_le _) (nar_z (Or.inr rfl)) dX10_areOne_146 (by rw [hF]; exact ⟨_, rfl, (Or.inr rfl), ⟨h, rfl⟩, rfl⟩)
  have j79 : ∀ (x1 : Int) (x2 : Int) (t0 : Int), wj_X10_areOne_79   x1 x2 t0 s Q → rgI x1 → rgI x2 → rgI t0 → JJ F E 0 0 s 79 [(0, .ref (adE E 279)), (1, .int (jI x1)), (2, .int (jI x2))] [.int (jI t0)] := by
    intro x1 x2 t0 h g1 g2 gt0
    refine J_aload_n C dX10_areOne_79 rfl 0 rfl ?_
    refine gf_X10_begins C hs wf_X10_16 dX10_areOne_80 ?_
    refine J_iload_n C dX10_areOne_83 rfl 2 rfl ?_
    obtain ⟨b51, b52, h⟩ := h
    refine J_iald C (dmM hs kc282 (by decide)) (n := 16) (clE_k E s kc282) (by decide) b51 b52 dX10_areOne_84 (fun g53 => ?_)
    refine J_isub C dX10_areOne_85 ?_
    obtain ⟨x3_86, e54⟩ : ∃ v : Int, v = (t0 - (gI s 282 x2)) := ⟨_, rfl⟩
    obtain ⟨g3_86, h⟩ := h x3_86 e54
    refine J_top e54 ?_
    refine J_istore_n C dX10_areOne_86 rfl (by decide) (lv' := [(3, .int (jI x3_86)), (0, .ref (adE E 279)), (1, .int (jI x1)), (2, .int (jI x2))]) rfl ?_
    refine J_aload_n C dX10_areOne_87 rfl 1 rfl ?_
    refine gf_X10_ends C hs wf_X10_19 dX10_areOne_88 ?_
    refine J_iload_n C dX10_areOne_91 rfl 2 rfl ?_
    obtain ⟨b55, b56, h⟩ := h
    refine J_iald C (dmM hs kc283 (by decide)) (n := 16) (clE_k E s kc283) (by decide) b55 b56 dX10_areOne_92 (fun g57 => ?_)
    refine J_aload_n C dX10_areOne_93 rfl 1 rfl ?_
    refine gf_X10_begins C hs wf_X10_16 dX10_areOne_94 ?_
    refine J_iload_n C dX10_areOne_97 rfl 2 rfl ?_
    obtain ⟨b58, b59, h⟩ := h
    refine J_iald C (dmM hs kc282 (by decide)) (n := 16) (clE_k E s kc282) (by decide) b58 b59 dX10_areOne_98 (fun g60 => ?_)
    refine J_isub C dX10_areOne_99 ?_
    obtain ⟨x4_100, e61⟩ : ∃ v : Int, v = ((gI s 283 x1) - (gI s 282 x1)) := ⟨_, rfl⟩
    obtain ⟨g4_100, h⟩ := h x4_100 e61
    refine J_top e61 ?_
    refine J_istore C dX10_areOne_100 (by decide) (lv' := [(4, .int (jI x4_100)), (3, .int (jI x3_86)), (0, .ref (adE E 279)), (1, .int (jI x1)), (2, .int (jI x2))]) rfl ?_
    refine J_aload_n C dX10_areOne_102 rfl 2 rfl ?_
    refine gf_X10_ends C hs wf_X10_19 dX10_areOne_103 ?_
    refine J_iload_n C dX10_areOne_106 rfl 4 rfl ?_
    obtain ⟨b62, b63, h⟩ := h
    refine J_iald C (dmM hs kc283 (by decide)) (n := 16) (clE_k E s kc283) (by decide) b62 b63 dX10_areOne_107 (fun g64 => ?_)
    refine J_aload_n C dX10_areOne_108 rfl 2 rfl ?_
    refine gf_X10_begins C hs wf_X10_16 dX10_areOne_109 ?_
    refine J_iload_n C dX10_areOne_112 rfl 4 rfl ?_
    obtain ⟨b65, b66, h⟩ := h
    refine J_iald C (dmM hs kc282 (by decide)) (n := 16) (clE_k E s kc282) (by decide) b65 b66 dX10_areOne_113 (fun g67 => ?_)
    refine J_isub C dX10_areOne_114 ?_
    obtain ⟨x5_115, e68⟩ : ∃ v : Int, v = ((gI s 283 x2) - (gI s 282 x2)) := ⟨_, rfl⟩
    obtain ⟨g5_115, h⟩ := h x5_115 e68
    refine J_top e68 ?_
    refine J_istore C dX10_areOne_115 (by decide) (lv' := [(5, .int (jI x5_115)), (4, .int (jI x4_100)), (3, .int (jI x3_86)), (0, .ref (adE E 279)), (1, .int (jI x1)), (2, .int (jI x2))]) rfl ?_
    refine J_iload_n C dX10_areOne_117 rfl 2 rfl ?_
    refine J_if_le C g3_86 (tgt := 145) dX10_areOne_118 (by decide) (fun q73 => ?_) (fun q73 => ?_)
    · replace h := h.1 q73
      refine J_iconst C dX10_areOne_145 ?_
      exact J_zret C (Nat.zero_le _) (Nat.zero_le _) (nar_z (Or.inl rfl)) dX10_areOne_146 (by rw [hF]; exact ⟨_, rfl, (Or.inl rfl), ⟨h, rfl⟩, rfl⟩)
    · replace h := h.2 q73
      refine J_iconst C dX10_areOne_121 ?_
      refine J_iload_n C dX10_areOne_122 rfl 2 rfl ?_
      refine J_imul C dX10_areOne_123 ?_
      refine J_iload C dX10_areOne_124 1 rfl ?_
      refine J_iload C dX10_areOne_126 0 rfl ?_
      refine J_icmp_ge C g4_100 g5_115 (tgt := 136) dX10_areOne_128 (by decide) (fun q72 => ?_) (fun q72 => ?_)
      · replace h := h.1 q72
        refine J_iload C dX10_areOne_136 0 rfl ?_
        obtain ⟨g70, h⟩ := h
        exact J_sub [] rfl (j138 _ _ h g5_115 g70)
      · replace h := h.2 q72
        refine J_iload C dX10_areOne_131 1 rfl ?_
        refine J_goto C (tgt := 138) dX10_areOne_133 (by decide) ?_
        obtain ⟨g71, h⟩ := h
        exact J_sub [] rfl (j138 _ _ h g4_100 g71)
  refine J_iload_n C dX10_areOne_0 rfl 1 rfl ?_
  refine J_iconst C dX10_areOne_1 ?_
  refine J_iadd C dX10_areOne_2 ?_
  obtain ⟨x2_3, e21⟩ : ∃ v : Int, v = (x1 + 1) := ⟨_, rfl⟩
  obtain ⟨g2_3, h⟩ := h x2_3 e21
  refine J_top e21 ?_
  refine J_istore_n C dX10_areOne_3 rfl (by decide) (lv' := [(2, .int (jI x2_3)), (0, .ref (adE E 279)), (1, .int (jI x1))]) rfl ?_
  refine J_aload_n C dX10_areOne_4 rfl 1 rfl ?_
  refine gf_X10_parts C hs wf_X10_22 dX10_areOne_5 ?_
  refine J_iload_n C dX10_areOne_8 rfl 2 rfl ?_
  obtain ⟨b22, b23, h⟩ := h
  refine J_iald C (dmM hs kc284 (by decide)) (n := 16) (clE_k E s kc284) (by decide) b22 b23 dX10_areOne_9 (fun g24 => ?_)
  refine J_iconst C dX10_areOne_10 ?_
  refine J_icmp_ne C g24 (rgN 1 (by decide)) (tgt := 47) dX10_areOne_11 (by decide) (fun q80 => ?_) (fun q80 => ?_)
  · replace h := h.2 q80
    refine J_iconst C dX10_areOne_47 ?_
    exact J_zret C (Nat.zero_le _) (Nat.zero_le _) (nar_z (Or.inl rfl)) dX10_areOne_48 (by rw [hF]; exact ⟨_, rfl, (Or.inl rfl), ⟨h, rfl⟩, rfl⟩)
  · replace h := h.1 q80
    refine J_aload_n C dX10_areOne_14 rfl 1 rfl ?_
    refine gf_X10_parts C hs wf_X10_22 dX10_areOne_15 ?_
    refine J_iload_n C dX10_areOne_18 rfl 0 rfl ?_
    obtain ⟨b25, b26, h⟩ := h
    refine J_iald C (dmM hs kc284 (by decide)) (n := 16) (clE_k E s kc284) (by decide) b25 b26 dX10_areOne_19 (fun g27 => ?_)
    refine J_iconst C dX10_areOne_20 ?_
    refine J_icmp_ne C g27 (rgN 1 (by decide)) (tgt := 47) dX10_areOne_21 (by decide) (fun q79 => ?_) (fun q79 => ?_)
    · replace h := h.2 q79
      refine J_iconst C dX10_areOne_47 ?_
      exact J_zret C (Nat.zero_le _) (Nat.zero_le _) (nar_z (Or.inl rfl)) dX10_areOne_48 (by rw [hF]; exact ⟨_, rfl, (Or.inl rfl), ⟨h, rfl⟩, rfl⟩)
    · replace h := h.1 q79
      refine J_aload_n C dX10_areOne_24 rfl 1 rfl ?_
      refine J_aload_n C dX10_areOne_25 rfl 1 rfl ?_
      refine gf_X10_one C hs wf_X10_25 dX10_areOne_26 ?_
      refine J_iload_n C dX10_areOne_29 rfl 2 rfl ?_
      obtain ⟨b28, b29, h⟩ := h
      refine J_iald C (dmM hs kc285 (by decide)) (n := 16) (clE_k E s kc285) (by decide) b28 b29 dX10_areOne_30 (fun g30 => ?_)
      refine J_V C (ct_X10_speakerOf hs g30 h) ck_X10_speakerOf wm_X10_149 win_X10_speakerOf wsel_X10_speakerOf (dmM hs kc279 (by decide)) (clE_k E s kc279) rfl ⟨rfl, rfl⟩ (by decide) (by decide) (As := [.int (jI (gI s 285 x1))]) (rest := []) rfl rfl (Nat.le_of_ble_eq_true rfl) dX10_areOne_31 (J_pI (fun v31 g33 h => ?_))
      refine J_aload_n C dX10_areOne_34 rfl 1 rfl ?_
      refine J_aload_n C dX10_areOne_35 rfl 1 rfl ?_
      refine gf_X10_one C hs wf_X10_25 dX10_areOne_36 ?_
      refine J_iload_n C dX10_areOne_39 rfl 0 rfl ?_
      obtain ⟨b35, b36, h⟩ := h
      refine J_iald C (dmM hs kc285 (by decide)) (n := 16) (clE_k E s kc285) (by decide) b35 b36 dX10_areOne_40 (fun g37 => ?_)
      refine J_V C (ct_X10_speakerOf hs g37 h) ck_X10_speakerOf wm_X10_149 win_X10_speakerOf wsel_X10_speakerOf (dmM hs kc279 (by decide)) (clE_k E s kc279) rfl ⟨rfl, rfl⟩ (by decide) (by decide) (As := [.int (jI (gI s 285 x2_3))]) (rest := [.int (jI v31)]) rfl rfl (Nat.le_of_ble_eq_true rfl) dX10_areOne_41 (J_pI (fun v38 g40 h => ?_))
      refine J_icmp_ne C g33 g40 (tgt := 49) dX10_areOne_44 (by decide) (fun q78 => ?_) (fun q78 => ?_)
      · replace h := h.2 q78
        refine J_aload_n C dX10_areOne_49 rfl 1 rfl ?_
        refine gf_X10_ends C hs wf_X10_19 dX10_areOne_50 ?_
        refine J_iload_n C dX10_areOne_53 rfl 2 rfl ?_
        obtain ⟨b42, b43, h⟩ := h
        refine J_iald C (dmM hs kc283 (by decide)) (n := 16) (clE_k E s kc283) (by decide) b42 b43 dX10_areOne_54 (fun g44 => ?_)
        refine J_aload_n C dX10_areOne_55 rfl 1 rfl ?_
        refine gf_X10_ends C hs wf_X10_19 dX10_areOne_56 ?_
        refine J_iload_n C dX10_areOne_59 rfl 0 rfl ?_
        obtain ⟨b45, b46, h⟩ := h
        refine J_iald C (dmM hs kc283 (by decide)) (n := 16) (clE_k E s kc283) (by decide) b45 b46 dX10_areOne_60 (fun g47 => ?_)
        refine J_icmp_ge C g44 g47 (tgt := 73) dX10_areOne_61 (by decide) (fun q77 => ?_) (fun q77 => ?_)
        · replace h := h.1 q77
          refine J_aload_n C dX10_areOne_73 rfl 1 rfl ?_
          refine gf_X10_ends C hs wf_X10_19 dX10_areOne_74 ?_
          refine J_iload_n C dX10_areOne_77 rfl 0 rfl ?_
          obtain ⟨b48, b49, h⟩ := h
          refine J_iald C (dmM hs kc283 (by decide)) (n := 16) (clE_k E s kc283) (by decide) b48 b49 dX10_areOne_78 (fun g50 => ?_)
          exact J_sub [1, 2, 0] rfl (j79 _ _ _ h g1 g2_3 g50)
        · replace h := h.2 q77
          refine J_aload_n C dX10_areOne_64 rfl 1 rfl ?_
          refine gf_X10_ends C hs wf_X10_19 dX10_areOne_65 ?_
          refine J_iload_n C dX10_areOne_68 rfl 2 rfl ?_
          obtain ⟨b74, b75, h⟩ := h
          refine J_iald C (dmM hs kc283 (by decide)) (n := 16) (clE_k E s kc283) (by decide) b74 b75 dX10_areOne_69 (fun g76 => ?_)
          refine J_goto C (tgt := 79) dX10_areOne_70 (by decide) ?_
          exact J_sub [1, 2, 0] rfl (j79 _ _ _ h g1 g2_3 g76)
      · replace h := h.1 q78
        refine J_iconst C dX10_areOne_47 ?_
        exact J_zret C (Nat.zero_le _) (Nat.zero_le _) (nar_z (Or.inl rfl)) dX10_areOne_48 (by rw [hF]; exact ⟨_, rfl, (Or.inl rfl), ⟨h, rfl⟩, rfl⟩)
set_option maxHeartbeats 4000000 in
set_option maxRecDepth 100000 in
theorem ct_X10_merges {l : Launch} {E : ET} (hs : eS E = false) {s : Sg} {Q : Sg → Prop} (h : wp_X10_merges s Q) : MetE l E yX10_merges cX10_merges 3 none rm_X10_merges s [.ref (adE E 279)] (qV Q (gN s)) := by
  refine MetJ (by decide +kernel) (Nat.le_of_ble_eq_true rfl) ?_
  intro F hl C hF
  subst hl
  show JJ F E 0 0 s 0 [(0, .ref (adE E 279))] []
  refine J_iconst C dX10_merges_0 ?_
  refine J_istore_n C dX10_merges_1 rfl (by decide) (lv' := [(1, .int (jI 0)), (0, .ref (adE E 279))]) rfl ?_
  replace h := h (fun (x1_2 : Int) (sL2 : Sg) => rgI x1_2 → gN sL2 = gN s → JJ F E 0 0 sL2 2 [(0, .ref (adE E 279)), (1, .int (jI x1_2))] []) (by
    intro x1_2 sL2 h g1_2 nL2
    have j179 : ∀ (x1 : Int) (sj : Sg), wj_X10_merges_179 (fun (x1_2 : Int) (sL2 : Sg) => rgI x1_2 → gN sL2 = gN s → JJ F E 0 0 sL2 2 [(0, .ref (adE E 279)), (1, .int (jI x1_2))] [])  x1 sj Q → rgI x1 → gN sj = gN s → JJ F E 0 0 sj 179 [(0, .ref (adE E 279)), (1, .int (jI x1))] [] := by
      intro x1 sj h g1 nj
      refine J_iinc C dX10_merges_179 1 rfl (by decide) (lv' := [(1, .int (jI (x1 + 1))), (0, .ref (adE E 279))]) rfl ?_
      refine J_goto C (tgt := 2) dX10_merges_182 (by decide) ?_
      obtain ⟨g27, h⟩ := h
      exact J_sub [1, 0] rfl (h g27 nj)
    have j80 : ∀ (x1 : Int) (t0 : Int) (t1 : Int) (sj : Sg), wj_X10_merges_80 (fun (x1_2 : Int) (sL2 : Sg) => rgI x1_2 → gN sL2 = gN s → JJ F E 0 0 sL2 2 [(0, .ref (adE E 279)), (1, .int (jI x1_2))] [])  x1 t0 t1 sj Q → rgI x1 → rgI t0 → rgI t1 → gN sj = gN s → JJ F E 0 0 sj 80 [(0, .ref (adE E 279)), (1, .int (jI x1))] [.int (jI t0), .int (jI t1), .ref (adE E 283)] := by
      intro x1 t0 t1 sj h g1 gt0 gt1 nj
      obtain ⟨b50, b51, h⟩ := h
      refine J_iast C (wrM hs kc283 (by decide)) (n := 16) (fun z => clE_k E z kc283) (by decide) b50 b51 gt0 dX10_merges_80 ?_
      obtain ⟨s52, f53⟩ : ∃ z : Sg, z = sI sj 283 t1 t0 := ⟨_, rfl⟩
      replace h := h s52 f53
      refine J_sig f53 ?_
      have n54 : gN s52 = gN s := by rw [f53]; exact nj
      refine J_aload_n C dX10_merges_81 rfl 0 rfl ?_
      refine J_dup C dX10_merges_82 rfl ?_
      refine gf_X10_many C hs wf_X10_84 dX10_merges_83 (fun g55 => ?_)
      refine J_iconst C dX10_merges_86 ?_
      refine J_isub C dX10_merges_87 ?_
      obtain ⟨g58, h⟩ := h
      refine pf_X10_many C hs wf_X10_84 g58 dX10_merges_88 ?_
      obtain ⟨s56, f57⟩ : ∃ z : Sg, z = sI s52 279 9 ((gI s52 279 9) - 1) := ⟨_, rfl⟩
      replace h := h s56 f57
      refine J_sig f57 ?_
      have n59 : gN s56 = gN s := by rw [f57]; exact n54
      refine J_iload_n C dX10_merges_91 rfl 1 rfl ?_
      refine J_iconst C dX10_merges_92 ?_
      refine J_iadd C dX10_merges_93 ?_
      obtain ⟨x2_94, e60⟩ : ∃ v : Int, v = (x1 + 1) := ⟨_, rfl⟩
      obtain ⟨g2_94, h⟩ := h x2_94 e60
      refine J_top e60 ?_
      refine J_istore_n C dX10_merges_94 rfl (by decide) (lv' := [(2, .int (jI x2_94)), (0, .ref (adE E 279)), (1, .int (jI x1))]) rfl ?_
      replace h := h (fun (x2_95 : Int) (sL95 : Sg) => rgI x2_95 → gN sL95 = gN s → JJ F E 0 0 sL95 95 [(0, .ref (adE E 279)), (1, .int (jI x1)), (2, .int (jI x2_95))] []) (by
        intro x2_95 sL95 h g2_95 nL95
        refine J_iload_n C dX10_merges_95 rfl 2 rfl ?_
        refine J_aload_n C dX10_merges_96 rfl 0 rfl ?_
        refine gf_X10_many C hs wf_X10_84 dX10_merges_97 (fun g61 => ?_)
        refine J_icmp_ge C g2_95 g61 (tgt := 179) dX10_merges_100 (by decide) (fun q103 => ?_) (fun q103 => ?_)
        · replace h := h.1 q103
          exact J_sub [0, 1] rfl (j179 _ _ h g1 nL95)
        · replace h := h.2 q103
          refine J_aload_n C dX10_merges_103 rfl 0 rfl ?_
          refine gf_X10_begins C hs wf_X10_16 dX10_merges_104 ?_
          refine J_iload_n C dX10_merges_107 rfl 2 rfl ?_
          refine J_aload_n C dX10_merges_108 rfl 0 rfl ?_
          refine gf_X10_begins C hs wf_X10_16 dX10_merges_109 ?_
          refine J_iload_n C dX10_merges_112 rfl 2 rfl ?_
          refine J_iconst C dX10_merges_113 ?_
          refine J_iadd C dX10_merges_114 ?_
          obtain ⟨b62, b63, h⟩ := h
          refine J_iald C (dmM hs kc282 (by decide)) (n := 16) (clE_k E sL95 kc282) (by decide) b62 b63 dX10_merges_115 (fun g64 => ?_)
          obtain ⟨b65, b66, h⟩ := h
          refine J_iast C (wrM hs kc282 (by decide)) (n := 16) (fun z => clE_k E z kc282) (by decide) b65 b66 g64 dX10_merges_116 ?_
          obtain ⟨s67, f68⟩ : ∃ z : Sg, z = sI sL95 282 x2_95 (gI sL95 282 (x2_95 + 1)) := ⟨_, rfl⟩
          replace h := h s67 f68
          refine J_sig f68 ?_
          have n69 : gN s67 = gN s := by rw [f68]; exact nL95
          refine J_aload_n C dX10_merges_117 rfl 0 rfl ?_
          refine gf_X10_ends C hs wf_X10_19 dX10_merges_118 ?_
          refine J_iload_n C dX10_merges_121 rfl 2 rfl ?_
          refine J_aload_n C dX10_merges_122 rfl 0 rfl ?_
          refine gf_X10_ends C hs wf_X10_19 dX10_merges_123 ?_
          refine J_iload_n C dX10_merges_126 rfl 2 rfl ?_
          refine J_iconst C dX10_merges_127 ?_
          refine J_iadd C dX10_merges_128 ?_
          obtain ⟨b70, b71, h⟩ := h
          refine J_iald C (dmM hs kc283 (by decide)) (n := 16) (clE_k E s67 kc283) (by decide) b70 b71 dX10_merges_129 (fun g72 => ?_)
          obtain ⟨b73, b74, h⟩ := h
          refine J_iast C (wrM hs kc283 (by decide)) (n := 16) (fun z => clE_k E z kc283) (by decide) b73 b74 g72 dX10_merges_130 ?_
          obtain ⟨s75, f76⟩ : ∃ z : Sg, z = sI s67 283 x2_95 (gI s67 283 (x2_95 + 1)) := ⟨_, rfl⟩
          replace h := h s75 f76
          refine J_sig f76 ?_
          have n77 : gN s75 = gN s := by rw [f76]; exact n69
          refine J_aload_n C dX10_merges_131 rfl 0 rfl ?_
          refine gf_X10_parts C hs wf_X10_22 dX10_merges_132 ?_
          refine J_iload_n C dX10_merges_135 rfl 2 rfl ?_
          refine J_aload_n C dX10_merges_136 rfl 0 rfl ?_
          refine gf_X10_parts C hs wf_X10_22 dX10_merges_137 ?_
          refine J_iload_n C dX10_merges_140 rfl 2 rfl ?_
          refine J_iconst C dX10_merges_141 ?_
          refine J_iadd C dX10_merges_142 ?_
          obtain ⟨b78, b79, h⟩ := h
          refine J_iald C (dmM hs kc284 (by decide)) (n := 16) (clE_k E s75 kc284) (by decide) b78 b79 dX10_merges_143 (fun g80 => ?_)
          obtain ⟨b81, b82, h⟩ := h
          refine J_iast C (wrM hs kc284 (by decide)) (n := 16) (fun z => clE_k E z kc284) (by decide) b81 b82 g80 dX10_merges_144 ?_
          obtain ⟨s83, f84⟩ : ∃ z : Sg, z = sI s75 284 x2_95 (gI s75 284 (x2_95 + 1)) := ⟨_, rfl⟩
          replace h := h s83 f84
          refine J_sig f84 ?_
          have n85 : gN s83 = gN s := by rw [f84]; exact n77
          refine J_aload_n C dX10_merges_145 rfl 0 rfl ?_
          refine gf_X10_one C hs wf_X10_25 dX10_merges_146 ?_
          refine J_iload_n C dX10_merges_149 rfl 2 rfl ?_
          refine J_aload_n C dX10_merges_150 rfl 0 rfl ?_
          refine gf_X10_one C hs wf_X10_25 dX10_merges_151 ?_
          refine J_iload_n C dX10_merges_154 rfl 2 rfl ?_
          refine J_iconst C dX10_merges_155 ?_
          refine J_iadd C dX10_merges_156 ?_
          obtain ⟨b86, b87, h⟩ := h
          refine J_iald C (dmM hs kc285 (by decide)) (n := 16) (clE_k E s83 kc285) (by decide) b86 b87 dX10_merges_157 (fun g88 => ?_)
          obtain ⟨b89, b90, h⟩ := h
          refine J_iast C (wrM hs kc285 (by decide)) (n := 16) (fun z => clE_k E z kc285) (by decide) b89 b90 g88 dX10_merges_158 ?_
          obtain ⟨s91, f92⟩ : ∃ z : Sg, z = sI s83 285 x2_95 (gI s83 285 (x2_95 + 1)) := ⟨_, rfl⟩
          replace h := h s91 f92
          refine J_sig f92 ?_
          have n93 : gN s91 = gN s := by rw [f92]; exact n85
          refine J_aload_n C dX10_merges_159 rfl 0 rfl ?_
          refine gf_X10_two C hs wf_X10_28 dX10_merges_160 ?_
          refine J_iload_n C dX10_merges_163 rfl 2 rfl ?_
          refine J_aload_n C dX10_merges_164 rfl 0 rfl ?_
          refine gf_X10_two C hs wf_X10_28 dX10_merges_165 ?_
          refine J_iload_n C dX10_merges_168 rfl 2 rfl ?_
          refine J_iconst C dX10_merges_169 ?_
          refine J_iadd C dX10_merges_170 ?_
          obtain ⟨b94, b95, h⟩ := h
          refine J_iald C (dmM hs kc286 (by decide)) (n := 16) (clE_k E s91 kc286) (by decide) b94 b95 dX10_merges_171 (fun g96 => ?_)
          obtain ⟨b97, b98, h⟩ := h
          refine J_iast C (wrM hs kc286 (by decide)) (n := 16) (fun z => clE_k E z kc286) (by decide) b97 b98 g96 dX10_merges_172 ?_
          obtain ⟨s99, f100⟩ : ∃ z : Sg, z = sI s91 286 x2_95 (gI s91 286 (x2_95 + 1)) := ⟨_, rfl⟩
          replace h := h s99 f100
          refine J_sig f100 ?_
          have n101 : gN s99 = gN s := by rw [f100]; exact n93
          refine J_iinc C dX10_merges_173 2 rfl (by decide) (lv' := [(2, .int (jI (x2_95 + 1))), (0, .ref (adE E 279)), (1, .int (jI x1))]) rfl ?_
          refine J_goto C (tgt := 95) dX10_merges_176 (by decide) ?_
          obtain ⟨g102, h⟩ := h
          exact J_sub [1, 2, 0] rfl (h g102 n101)
      )
      exact J_sub [1, 2, 0] rfl (h g2_94 n59)
    refine J_iload_n C dX10_merges_2 rfl 1 rfl ?_
    refine J_iconst C dX10_merges_3 ?_
    refine J_iadd C dX10_merges_4 ?_
    refine J_aload_n C dX10_merges_5 rfl 0 rfl ?_
    refine gf_X10_many C hs wf_X10_84 dX10_merges_6 (fun g21 => ?_)
    obtain ⟨g22, h⟩ := h
    refine J_icmp_ge C g22 g21 (tgt := 185) dX10_merges_9 (by decide) (fun q109 => ?_) (fun q109 => ?_)
    · replace h := h.1 q109
      exact J_vret C (Nat.zero_le _) (Nat.zero_le _) dX10_merges_185 (by rw [hF]; exact ⟨rfl, h, nL2⟩)
    · replace h := h.2 q109
      refine J_aload_n C dX10_merges_12 rfl 0 rfl ?_
      refine J_iload_n C dX10_merges_13 rfl 1 rfl ?_
      refine J_V C (ct_X10_areOne hs g1_2 h) ck_X10_areOne wm_X10_152 win_X10_areOne wsel_X10_areOne (dmM hs kc279 (by decide)) (clE_k E sL2 kc279) rfl ⟨rfl, rfl⟩ (by decide) (by decide) (As := [.int (jI x1_2)]) (rest := []) rfl rfl (Nat.le_of_ble_eq_true rfl) dX10_merges_14 (J_pZ (fun v23 g25 h => ?_))
      refine J_if_eq C (rg_z g25) (tgt := 179) dX10_merges_17 (by decide) (fun q108 => ?_) (fun q108 => ?_)
      · replace h := h.1 q108
        exact J_sub [0, 1] rfl (j179 _ _ h g1_2 nL2)
      · replace h := h.2 q108
        refine J_aload_n C dX10_merges_20 rfl 0 rfl ?_
        refine gf_X10_parts C hs wf_X10_22 dX10_merges_21 ?_
        refine J_iload_n C dX10_merges_24 rfl 1 rfl ?_
        refine J_iconst C dX10_merges_25 ?_
        obtain ⟨b28, b29, h⟩ := h
        refine J_iast C (wrM hs kc284 (by decide)) (n := 16) (fun z => clE_k E z kc284) (by decide) b28 b29 (rgN 2 (by decide)) dX10_merges_26 ?_
        obtain ⟨s30, f31⟩ : ∃ z : Sg, z = sI sL2 284 x1_2 2 := ⟨_, rfl⟩
        replace h := h s30 f31
        refine J_sig f31 ?_
        have n32 : gN s30 = gN s := by rw [f31]; exact nL2
        refine J_aload_n C dX10_merges_27 rfl 0 rfl ?_
        refine gf_X10_two C hs wf_X10_28 dX10_merges_28 ?_
        refine J_iload_n C dX10_merges_31 rfl 1 rfl ?_
        refine J_aload_n C dX10_merges_32 rfl 0 rfl ?_
        refine gf_X10_one C hs wf_X10_25 dX10_merges_33 ?_
        refine J_iload_n C dX10_merges_36 rfl 1 rfl ?_
        refine J_iconst C dX10_merges_37 ?_
        refine J_iadd C dX10_merges_38 ?_
        obtain ⟨b33, b34, h⟩ := h
        refine J_iald C (dmM hs kc285 (by decide)) (n := 16) (clE_k E s30 kc285) (by decide) b33 b34 dX10_merges_39 (fun g35 => ?_)
        obtain ⟨b36, b37, h⟩ := h
        refine J_iast C (wrM hs kc286 (by decide)) (n := 16) (fun z => clE_k E z kc286) (by decide) b36 b37 g35 dX10_merges_40 ?_
        obtain ⟨s38, f39⟩ : ∃ z : Sg, z = sI s30 286 x1_2 (gI s30 285 (x1_2 + 1)) := ⟨_, rfl⟩
        replace h := h s38 f39
        refine J_sig f39 ?_
        have n40 : gN s38 = gN s := by rw [f39]; exact n32
        refine J_aload_n C dX10_merges_41 rfl 0 rfl ?_
        refine gf_X10_ends C hs wf_X10_19 dX10_merges_42 ?_
        refine J_iload_n C dX10_merges_45 rfl 1 rfl ?_
        refine J_aload_n C dX10_merges_46 rfl 0 rfl ?_
        refine gf_X10_ends C hs wf_X10_19 dX10_merges_47 ?_
        refine J_iload_n C dX10_merges_50 rfl 1 rfl ?_
        obtain ⟨b41, b42, h⟩ := h
        refine J_iald C (dmM hs kc283 (by decide)) (n := 16) (clE_k E s38 kc283) (by decide) b41 b42 dX10_merges_51 (fun g43 => ?_)
        refine J_aload_n C dX10_merges_52 rfl 0 rfl ?_
        refine gf_X10_ends C hs wf_X10_19 dX10_merges_53 ?_
        refine J_iload_n C dX10_merges_56 rfl 1 rfl ?_
        refine J_iconst C dX10_merges_57 ?_
        refine J_iadd C dX10_merges_58 ?_
        obtain ⟨b44, b45, h⟩ := h
        refine J_iald C (dmM hs kc283 (by decide)) (n := 16) (clE_k E s38 kc283) (by decide) b44 b45 dX10_merges_59 (fun g46 => ?_)
        refine J_icmp_le C g43 g46 (tgt := 72) dX10_merges_60 (by decide) (fun q107 => ?_) (fun q107 => ?_)
        · replace h := h.1 q107
          refine J_aload_n C dX10_merges_72 rfl 0 rfl ?_
          refine gf_X10_ends C hs wf_X10_19 dX10_merges_73 ?_
          refine J_iload_n C dX10_merges_76 rfl 1 rfl ?_
          refine J_iconst C dX10_merges_77 ?_
          refine J_iadd C dX10_merges_78 ?_
          obtain ⟨b47, b48, h⟩ := h
          refine J_iald C (dmM hs kc283 (by decide)) (n := 16) (clE_k E s38 kc283) (by decide) b47 b48 dX10_merges_79 (fun g49 => ?_)
          exact J_sub [0, 1] rfl (j80 _ _ _ _ h g1_2 g49 g1_2 n40)
        · replace h := h.2 q107
          refine J_aload_n C dX10_merges_63 rfl 0 rfl ?_
          refine gf_X10_ends C hs wf_X10_19 dX10_merges_64 ?_
          refine J_iload_n C dX10_merges_67 rfl 1 rfl ?_
          obtain ⟨b104, b105, h⟩ := h
          refine J_iald C (dmM hs kc283 (by decide)) (n := 16) (clE_k E s38 kc283) (by decide) b104 b105 dX10_merges_68 (fun g106 => ?_)
          refine J_goto C (tgt := 80) dX10_merges_69 (by decide) ?_
          exact J_sub [0, 1] rfl (j80 _ _ _ _ h g1_2 g106 g1_2 n40)
  )
  exact J_sub [1, 0] rfl (h (rgN 0 (by decide)) rfl)
set_option maxHeartbeats 4000000 in
set_option maxRecDepth 100000 in
theorem ct_X10_reads {l : Launch} {E : ET} (hs : eS E = false) {s : Sg} {Q : Sg → Prop} (h : wp_X10_reads s Q) : MetE l E yX10_reads cX10_reads 4 none rm_X10_reads s [.ref (adE E 279)] (qV Q (gN s)) := by
  refine MetJ (by decide +kernel) (Nat.le_of_ble_eq_true rfl) ?_
  intro F hl C hF
  subst hl
  show JJ F E 0 0 s 0 [(0, .ref (adE E 279))] []
  refine J_iconst C dX10_reads_0 ?_
  refine J_istore_n C dX10_reads_1 rfl (by decide) (lv' := [(1, .int (jI 0)), (0, .ref (adE E 279))]) rfl ?_
  replace h := h (fun (x1_2 : Int) (sL2 : Sg) => rgI x1_2 → gN sL2 = gN s → JJ F E 0 0 sL2 2 [(0, .ref (adE E 279)), (1, .int (jI x1_2))] []) (by
    intro x1_2 sL2 h g1_2 nL2
    have j110 : ∀ (x1 : Int) (t0 : Int) (t1 : Int) (sj : Sg), wj_X10_reads_110 (fun (x1_2 : Int) (sL2 : Sg) => rgI x1_2 → gN sL2 = gN s → JJ F E 0 0 sL2 2 [(0, .ref (adE E 279)), (1, .int (jI x1_2))] [])  x1 t0 t1 sj Q → rgI x1 → rgI t0 → rgI t1 → gN sj = gN s → JJ F E 0 0 sj 110 [(0, .ref (adE E 279)), (1, .int (jI x1))] [.int (jI t0), .int (jI t1), .ref (adE E 283)] := by
      intro x1 t0 t1 sj h g1 gt0 gt1 nj
      obtain ⟨b44, b45, h⟩ := h
      refine J_iast C (wrM hs kc283 (by decide)) (n := 16) (fun z => clE_k E z kc283) (by decide) b44 b45 gt0 dX10_reads_110 ?_
      obtain ⟨s46, f47⟩ : ∃ z : Sg, z = sI sj 283 t1 t0 := ⟨_, rfl⟩
      replace h := h s46 f47
      refine J_sig f47 ?_
      have n48 : gN s46 = gN s := by rw [f47]; exact nj
      refine J_iinc C dX10_reads_111 1 rfl (by decide) (lv' := [(1, .int (jI (x1 + 1))), (0, .ref (adE E 279))]) rfl ?_
      refine J_goto C (tgt := 2) dX10_reads_114 (by decide) ?_
      obtain ⟨g49, h⟩ := h
      exact J_sub [1, 0] rfl (h g49 n48)
    have j84 : ∀ (x1 : Int) (t0 : Int) (sj : Sg), wj_X10_reads_84 (fun (x1_2 : Int) (sL2 : Sg) => rgI x1_2 → gN sL2 = gN s → JJ F E 0 0 sL2 2 [(0, .ref (adE E 279)), (1, .int (jI x1_2))] [])  x1 t0 sj Q → rgI x1 → rgI t0 → gN sj = gN s → JJ F E 0 0 sj 84 [(0, .ref (adE E 279)), (1, .int (jI x1))] [.int (jI t0)] := by
      intro x1 t0 sj h g1 gt0 nj
      refine J_istore_n C dX10_reads_84 rfl (by decide) (lv' := [(2, .int (jI t0)), (0, .ref (adE E 279)), (1, .int (jI x1))]) rfl ?_
      refine J_aload_n C dX10_reads_85 rfl 1 rfl ?_
      refine gf_X10_ends C hs wf_X10_19 dX10_reads_86 ?_
      refine J_iload_n C dX10_reads_89 rfl 2 rfl ?_
      refine J_iload_n C dX10_reads_90 rfl 0 rfl ?_
      refine J_aload_n C dX10_reads_91 rfl 1 rfl ?_
      refine gf_X10_ends C hs wf_X10_19 dX10_reads_92 ?_
      refine J_iload_n C dX10_reads_95 rfl 2 rfl ?_
      obtain ⟨b38, b39, h⟩ := h
      refine J_iald C (dmM hs kc283 (by decide)) (n := 16) (clE_k E sj kc283) (by decide) b38 b39 dX10_reads_96 (fun g40 => ?_)
      refine J_icmp_le C gt0 g40 (tgt := 104) dX10_reads_97 (by decide) (fun q50 => ?_) (fun q50 => ?_)
      · replace h := h.1 q50
        refine J_aload_n C dX10_reads_104 rfl 1 rfl ?_
        refine gf_X10_ends C hs wf_X10_19 dX10_reads_105 ?_
        refine J_iload_n C dX10_reads_108 rfl 2 rfl ?_
        obtain ⟨b41, b42, h⟩ := h
        refine J_iald C (dmM hs kc283 (by decide)) (n := 16) (clE_k E sj kc283) (by decide) b41 b42 dX10_reads_109 (fun g43 => ?_)
        exact J_sub [1, 2] rfl (j110 _ _ _ _ h g1 g43 g1 nj)
      · replace h := h.2 q50
        refine J_iload_n C dX10_reads_100 rfl 0 rfl ?_
        refine J_goto C (tgt := 110) dX10_reads_101 (by decide) ?_
        exact J_sub [1, 2] rfl (j110 _ _ _ _ h g1 gt0 g1 nj)
    have j83 : ∀ (x1 : Int) (x2 : Int) (sj : Sg), wj_X10_reads_83 (fun (x1_2 : Int) (sL2 : Sg) => rgI x1_2 → gN sL2 = gN s → JJ F E 0 0 sL2 2 [(0, .ref (adE E 279)), (1, .int (jI x1_2))] [])  x1 x2 sj Q → rgI x1 → rgI x2 → gN sj = gN s → JJ F E 0 0 sj 83 [(0, .ref (adE E 279)), (1, .int (jI x1)), (2, .int (jI x2))] [] := by
      intro x1 x2 sj h g1 g2 nj
      refine J_iload_n C dX10_reads_83 rfl 2 rfl ?_
      exact J_sub [0, 1] rfl (j84 _ _ _ h g1 g2 nj)
    have j45 : ∀ (x1 : Int) (x3 : Int) (t0 : Int) (sj : Sg), wj_X10_reads_45 (fun (x1_2 : Int) (sL2 : Sg) => rgI x1_2 → gN sL2 = gN s → JJ F E 0 0 sL2 2 [(0, .ref (adE E 279)), (1, .int (jI x1_2))] [])  x1 x3 t0 sj Q → rgI x1 → rgI x3 → rgI t0 → gN sj = gN s → JJ F E 0 0 sj 45 [(0, .ref (adE E 279)), (1, .int (jI x1)), (3, .int (jI x3))] [.int (jI t0)] := by
      intro x1 x3 t0 sj h g1 g3 gt0 nj
      refine J_istore_n C dX10_reads_45 rfl (by decide) (lv' := [(2, .int (jI t0)), (0, .ref (adE E 279)), (1, .int (jI x1)), (3, .int (jI x3))]) rfl ?_
      refine J_iload_n C dX10_reads_46 rfl 3 rfl ?_
      refine J_bipush C dX10_reads_47 (by decide) ?_
      refine J_icmp_eq C g3 (rgN (-9) (by decide)) (tgt := 83) dX10_reads_49 (by decide) (fun q68 => ?_) (fun q68 => ?_)
      · replace h := h.1 q68
        exact J_sub [1, 2, 0] rfl (j83 _ _ _ h g1 gt0 nj)
      · replace h := h.2 q68
        refine J_iload_n C dX10_reads_52 rfl 0 rfl ?_
        refine J_aload_n C dX10_reads_53 rfl 1 rfl ?_
        refine gf_X10_begins C hs wf_X10_16 dX10_reads_54 ?_
        refine J_iload_n C dX10_reads_57 rfl 3 rfl ?_
        obtain ⟨b51, b52, h⟩ := h
        refine J_iald C (dmM hs kc282 (by decide)) (n := 16) (clE_k E sj kc282) (by decide) b51 b52 dX10_reads_58 (fun g53 => ?_)
        refine J_aload_n C dX10_reads_59 rfl 1 rfl ?_
        refine J_iconst C dX10_reads_60 ?_
        refine J_V C (ct_X10_setting hs (rgN 2 (by decide)) h) ck_X10_setting wm_X10_105 win_X10_setting wsel_X10_setting (dmM hs kc279 (by decide)) (clE_k E sj kc279) rfl ⟨rfl, rfl⟩ (by decide) (by decide) (As := [.int (jI 2)]) (rest := [.int (jI (gI sj 282 x3)), .int (jI t0)]) rfl rfl (Nat.le_of_ble_eq_true rfl) dX10_reads_61 (J_pI (fun v54 g56 h => ?_))
        refine J_isub C dX10_reads_64 ?_
        obtain ⟨g58, h⟩ := h
        refine J_icmp_le C gt0 g58 (tgt := 83) dX10_reads_65 (by decide) (fun q67 => ?_) (fun q67 => ?_)
        · replace h := h.1 q67
          exact J_sub [1, 2, 0] rfl (j83 _ _ _ h g1 gt0 nj)
        · replace h := h.2 q67
          refine J_aload_n C dX10_reads_68 rfl 1 rfl ?_
          refine gf_X10_begins C hs wf_X10_16 dX10_reads_69 ?_
          refine J_iload_n C dX10_reads_72 rfl 3 rfl ?_
          obtain ⟨b59, b60, h⟩ := h
          refine J_iald C (dmM hs kc282 (by decide)) (n := 16) (clE_k E sj kc282) (by decide) b59 b60 dX10_reads_73 (fun g61 => ?_)
          refine J_aload_n C dX10_reads_74 rfl 1 rfl ?_
          refine J_iconst C dX10_reads_75 ?_
          refine J_V C (ct_X10_setting hs (rgN 2 (by decide)) h) ck_X10_setting wm_X10_105 win_X10_setting wsel_X10_setting (dmM hs kc279 (by decide)) (clE_k E sj kc279) rfl ⟨rfl, rfl⟩ (by decide) (by decide) (As := [.int (jI 2)]) (rest := [.int (jI (gI sj 282 x3))]) rfl rfl (Nat.le_of_ble_eq_true rfl) dX10_reads_76 (J_pI (fun v62 g64 h => ?_))
          refine J_isub C dX10_reads_79 ?_
          refine J_goto C (tgt := 84) dX10_reads_80 (by decide) ?_
          obtain ⟨g66, h⟩ := h
          exact J_sub [1, 2] rfl (j84 _ _ _ h g1 g66 nj)
    refine J_iload_n C dX10_reads_2 rfl 1 rfl ?_
    refine J_aload_n C dX10_reads_3 rfl 0 rfl ?_
    refine gf_X10_many C hs wf_X10_84 dX10_reads_4 (fun g21 => ?_)
    refine J_icmp_ge C g1_2 g21 (tgt := 117) dX10_reads_7 (by decide) (fun q74 => ?_) (fun q74 => ?_)
    · replace h := h.1 q74
      exact J_vret C (Nat.zero_le _) (Nat.zero_le _) dX10_reads_117 (by rw [hF]; exact ⟨rfl, h, nL2⟩)
    · replace h := h.2 q74
      refine J_aload_n C dX10_reads_10 rfl 0 rfl ?_
      refine gf_X10_begins C hs wf_X10_16 dX10_reads_11 ?_
      refine J_iload_n C dX10_reads_14 rfl 1 rfl ?_
      obtain ⟨b22, b23, h⟩ := h
      refine J_iald C (dmM hs kc282 (by decide)) (n := 16) (clE_k E sL2 kc282) (by decide) b22 b23 dX10_reads_15 (fun g24 => ?_)
      refine J_aload_n C dX10_reads_16 rfl 0 rfl ?_
      refine J_iload_n C dX10_reads_17 rfl 1 rfl ?_
      refine J_V C (ct_X10_readingOf hs g1_2 h) ck_X10_readingOf wm_X10_123 win_X10_readingOf wsel_X10_readingOf (dmM hs kc279 (by decide)) (clE_k E sL2 kc279) rfl ⟨rfl, rfl⟩ (by decide) (by decide) (As := [.int (jI x1_2)]) (rest := [.int (jI (gI sL2 282 x1_2))]) rfl rfl (Nat.le_of_ble_eq_true rfl) dX10_reads_18 (J_pI (fun v25 g27 h => ?_))
      refine J_iadd C dX10_reads_21 ?_
      obtain ⟨x2_22, e29⟩ : ∃ v : Int, v = ((gI sL2 282 x1_2) + v25) := ⟨_, rfl⟩
      obtain ⟨g2_22, h⟩ := h x2_22 e29
      refine J_top e29 ?_
      refine J_istore_n C dX10_reads_22 rfl (by decide) (lv' := [(2, .int (jI x2_22)), (0, .ref (adE E 279)), (1, .int (jI x1_2))]) rfl ?_
      refine J_aload_n C dX10_reads_23 rfl 1 rfl ?_
      refine J_iload_n C dX10_reads_24 rfl 2 rfl ?_
      refine J_V C (ct_X10_nextOf hs g1_2 h) ck_X10_nextOf wm_X10_120 win_X10_nextOf wsel_X10_nextOf (dmM hs kc279 (by decide)) (clE_k E sL2 kc279) rfl ⟨rfl, rfl⟩ (by decide) (by decide) (As := [.int (jI x1_2)]) (rest := []) rfl rfl (Nat.le_of_ble_eq_true rfl) dX10_reads_25 (J_pI (fun v30 g32 h => ?_))
      refine J_istore_n C dX10_reads_28 rfl (by decide) (lv' := [(3, .int (jI v30)), (2, .int (jI x2_22)), (0, .ref (adE E 279)), (1, .int (jI x1_2))]) rfl ?_
      refine J_iload_n C dX10_reads_29 rfl 1 rfl ?_
      refine J_aload_n C dX10_reads_30 rfl 2 rfl ?_
      refine J_V C (ct_X10_newLong hs h) ck_X10_newLong wm_X10_64 win_X10_newLong wsel_X10_newLong (dmM hs kc279 (by decide)) (clE_k E sL2 kc279) rfl ⟨rfl, rfl⟩ (by decide) (by decide) (As := []) (rest := [.int (jI x2_22)]) rfl rfl (Nat.le_of_ble_eq_true rfl) dX10_reads_31 (J_pI (fun v34 g36 h => ?_))
      refine J_icmp_le C g2_22 g36 (tgt := 44) dX10_reads_34 (by decide) (fun q73 => ?_) (fun q73 => ?_)
      · replace h := h.1 q73
        refine J_iload_n C dX10_reads_44 rfl 1 rfl ?_
        exact J_sub [2, 3, 0] rfl (j45 _ _ _ _ h g1_2 g32 g2_22 nL2)
      · replace h := h.2 q73
        refine J_aload_n C dX10_reads_37 rfl 2 rfl ?_
        refine J_V C (ct_X10_newLong hs h) ck_X10_newLong wm_X10_64 win_X10_newLong wsel_X10_newLong (dmM hs kc279 (by decide)) (clE_k E sL2 kc279) rfl ⟨rfl, rfl⟩ (by decide) (by decide) (As := []) (rest := []) rfl rfl (Nat.le_of_ble_eq_true rfl) dX10_reads_38 (J_pI (fun v69 g71 h => ?_))
        refine J_goto C (tgt := 45) dX10_reads_41 (by decide) ?_
        exact J_sub [2, 3, 0] rfl (j45 _ _ _ _ h g1_2 g32 g71 nL2)
  )
  exact J_sub [1, 0] rfl (h (rgN 0 (by decide)) rfl)
