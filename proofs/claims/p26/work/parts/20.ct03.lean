/-! contracts (printed by wip/whole/gen) -/
set_option maxHeartbeats 4000000 in
set_option maxRecDepth 100000 in
theorem ct_X7_shownAt {l : Launch} {E : ET} (hs : eS E = true) {s : Sg} {r0 : Nat} (k0 : kdO r0 = 12) {x1 : Int} (g1 : rgI x1) {Q : Int → Prop} (h : wp_X7_shownAt r0 x1 s Q) : MetE l E yX7_shownAt cX7_shownAt 4 (some .int) rm_X7_shownAt s [.ref (adE E r0), .int (jI x1)] (qI (fun r t => Q r ∧ t = s) (gN s)) := by
  refine MetJ (by decide +kernel) (Nat.le_of_ble_eq_true rfl) ?_
  intro F hl C hF
  subst hl
  show JJ F E 0 0 s 0 [(0, .ref (adE E r0)), (1, .int (jI x1))] []
  refine J_iconst C dX7_shownAt_0 ?_
  refine J_istore_n C dX7_shownAt_1 rfl (by decide) (lv' := [(2, .int (jI 0)), (0, .ref (adE E r0)), (1, .int (jI x1))]) rfl ?_
  refine J_iconst C dX7_shownAt_2 ?_
  refine J_istore_n C dX7_shownAt_3 rfl (by decide) (lv' := [(3, .int (jI 0)), (2, .int (jI 0)), (0, .ref (adE E r0)), (1, .int (jI x1))]) rfl ?_
  replace h := h (fun (x2_4 : Int) (x3_4 : Int) => rgI x2_4 → rgI x3_4 → JJ F E 0 0 s 4 [(0, .ref (adE E r0)), (1, .int (jI x1)), (2, .int (jI x2_4)), (3, .int (jI x3_4))] []) (by
    intro x2_4 x3_4 h g2_4 g3_4
    have j44 : ∀ (x2 : Int) (x3 : Int), wj_X7_shownAt_44 (fun (x2_4 : Int) (x3_4 : Int) => rgI x2_4 → rgI x3_4 → JJ F E 0 0 s 4 [(0, .ref (adE E r0)), (1, .int (jI x1)), (2, .int (jI x2_4)), (3, .int (jI x3_4))] []) r0 x1 x2 x3 s Q → rgI x2 → rgI x3 → JJ F E 0 0 s 44 [(0, .ref (adE E r0)), (1, .int (jI x1)), (2, .int (jI x2)), (3, .int (jI x3))] [] := by
      intro x2 x3 h g2 g3
      refine J_iinc C dX7_shownAt_44 3 rfl (by decide) (lv' := [(3, .int (jI (x3 + 1))), (0, .ref (adE E r0)), (1, .int (jI x1)), (2, .int (jI x2))]) rfl ?_
      refine J_goto C (tgt := 4) dX7_shownAt_47 (by decide) ?_
      obtain ⟨g26, h⟩ := h
      exact J_sub [1, 2, 3, 0] rfl (h g2 g26)
    refine J_iload_n C dX7_shownAt_4 rfl 3 rfl ?_
    refine J_aload_n C dX7_shownAt_5 rfl 0 rfl ?_
    refine gf_X7_count C hs k0 wf_X7_24 dX7_shownAt_6 (fun g21 => ?_)
    refine J_icmp_ge C g3_4 g21 (tgt := 50) dX7_shownAt_9 (by decide) (fun q34 => ?_) (fun q34 => ?_)
    · replace h := h.1 q34
      refine J_iload_n C dX7_shownAt_50 rfl 2 rfl ?_
      exact J_iret C (Nat.zero_le _) (Nat.zero_le _) dX7_shownAt_51 (by rw [hF]; exact ⟨_, rfl, g2_4, ⟨h, rfl⟩, rfl⟩)
    · replace h := h.2 q34
      refine J_aload_n C dX7_shownAt_12 rfl 0 rfl ?_
      refine gf_X7_rows C hs k0 wf_X7_11 dX7_shownAt_13 ?_
      refine J_iload_n C dX7_shownAt_16 rfl 3 rfl ?_
      obtain ⟨b22, b23, h⟩ := h
      refine J_aald C hs (kd12_rows k0) b22 b23 dX7_shownAt_17 (fun k24 => ?_)
      refine gf_X6_first C hs k24 wf_X7_40 dX7_shownAt_18 (fun g25 => ?_)
      refine J_iload_n C dX7_shownAt_21 rfl 1 rfl ?_
      refine J_icmp_gt C g25 g1 (tgt := 44) dX7_shownAt_22 (by decide) (fun q33 => ?_) (fun q33 => ?_)
      · replace h := h.1 q33
        exact J_sub [0, 1, 2, 3] rfl (j44 _ _ h g2_4 g3_4)
      · replace h := h.2 q33
        refine J_iload_n C dX7_shownAt_25 rfl 1 rfl ?_
        refine J_aload_n C dX7_shownAt_26 rfl 0 rfl ?_
        refine gf_X7_rows C hs k0 wf_X7_11 dX7_shownAt_27 ?_
        refine J_iload_n C dX7_shownAt_30 rfl 3 rfl ?_
        obtain ⟨b27, b28, h⟩ := h
        refine J_aald C hs (kd12_rows k0) b27 b28 dX7_shownAt_31 (fun k29 => ?_)
        refine gf_X6_end C hs k29 wf_X7_43 dX7_shownAt_32 (fun g30 => ?_)
        refine J_icmp_ge C g1 g30 (tgt := 44) dX7_shownAt_35 (by decide) (fun q32 => ?_) (fun q32 => ?_)
        · replace h := h.1 q32
          exact J_sub [0, 1, 2, 3] rfl (j44 _ _ h g2_4 g3_4)
        · replace h := h.2 q32
          refine J_iload_n C dX7_shownAt_38 rfl 2 rfl ?_
          refine J_iconst C dX7_shownAt_39 ?_
          refine J_iload_n C dX7_shownAt_40 rfl 3 rfl ?_
          refine J_ishl C dX7_shownAt_41 ?_
          refine J_ior C dX7_shownAt_42 ?_
          obtain ⟨x2_43, e31⟩ : ∃ v : Int, v = (jOr x2_4 (jShl 1 x3_4)) := ⟨_, rfl⟩
          replace h := h x2_43 e31
          have g2_43 : rgI x2_43 := by rw [e31]; exact (rg_or _ _)
          refine J_top e31 ?_
          refine J_istore_n C dX7_shownAt_43 rfl (by decide) (lv' := [(2, .int (jI x2_43)), (0, .ref (adE E r0)), (1, .int (jI x1)), (3, .int (jI x3_4))]) rfl ?_
          exact J_sub [1, 2, 0, 3] rfl (j44 _ _ h g2_43 g3_4)
  )
  exact J_sub [2, 3, 1, 0] rfl (h (rgN 0 (by decide)) (rgN 0 (by decide)))
set_option maxHeartbeats 4000000 in
set_option maxRecDepth 100000 in
theorem ct_X8_put {l : Launch} {E : ET} (hs : eS E = true) {s : Sg} {x1 : Int} (g1 : rgI x1) {x2 : Int} (g2 : rgI x2) {Q : Sg → Prop} (h : wp_X8_put x1 x2 s Q) : MetE l E yX8_put cX8_put 3 none rm_X8_put s [.ref (adE E 31), .int (jI x1), .int (jI x2)] (qV Q (gN s)) := by
  refine MetJ (by decide +kernel) (Nat.le_of_ble_eq_true rfl) ?_
  intro F hl C hF
  subst hl
  show JJ F E 0 0 s 0 [(0, .ref (adE E 31)), (1, .int (jI x1)), (2, .int (jI x2))] []
  have j37 : ∀ (x1 : Int) (x2 : Int) (sj : Sg), wj_X8_put_37   x1 x2 sj Q → rgI x1 → rgI x2 → gN sj = gN s → JJ F E 0 0 sj 37 [(0, .ref (adE E 31)), (1, .int (jI x1)), (2, .int (jI x2))] [] := by
    intro x1 x2 sj h g1 g2 nj
    refine J_aload_n C dX8_put_37 rfl 0 rfl ?_
    refine gf_X8_found C hs wf_X8_55 dX8_put_38 (fun g22 => ?_)
    refine J_bipush C dX8_put_41 (by decide) ?_
    refine J_icmp_ge C g22 (rgN 10 (by decide)) (tgt := 76) dX8_put_43 (by decide) (fun q40 => ?_) (fun q40 => ?_)
    · replace h := h.1 q40
      exact J_vret C (Nat.zero_le _) (Nat.zero_le _) dX8_put_76 (by rw [hF]; exact ⟨rfl, h, nj⟩)
    · replace h := h.2 q40
      refine J_aload_n C dX8_put_46 rfl 0 rfl ?_
      refine gf_X8_begins C hs wf_X8_9 dX8_put_47 ?_
      refine J_aload_n C dX8_put_50 rfl 0 rfl ?_
      refine gf_X8_found C hs wf_X8_55 dX8_put_51 (fun g23 => ?_)
      refine J_iload_n C dX8_put_54 rfl 1 rfl ?_
      obtain ⟨b24, b25, h⟩ := h
      refine J_iast C (wrC hs kc32 (by decide)) (n := 10) (fun z => clE_k E z kc32) (by decide) b24 b25 g1 dX8_put_55 ?_
      obtain ⟨s26, f27⟩ : ∃ z : Sg, z = sI sj 32 (gI sj 31 4) x1 := ⟨_, rfl⟩
      replace h := h s26 f27
      refine J_sig f27 ?_
      have n28 : gN s26 = gN s := by rw [f27]; exact nj
      refine J_aload_n C dX8_put_56 rfl 0 rfl ?_
      refine gf_X8_ends C hs wf_X8_15 dX8_put_57 ?_
      refine J_aload_n C dX8_put_60 rfl 0 rfl ?_
      refine gf_X8_found C hs wf_X8_55 dX8_put_61 (fun g29 => ?_)
      refine J_iload_n C dX8_put_64 rfl 2 rfl ?_
      obtain ⟨b30, b31, h⟩ := h
      refine J_iast C (wrC hs kc33 (by decide)) (n := 10) (fun z => clE_k E z kc33) (by decide) b30 b31 g2 dX8_put_65 ?_
      obtain ⟨s32, f33⟩ : ∃ z : Sg, z = sI s26 33 (gI s26 31 4) x2 := ⟨_, rfl⟩
      replace h := h s32 f33
      refine J_sig f33 ?_
      have n34 : gN s32 = gN s := by rw [f33]; exact n28
      refine J_aload_n C dX8_put_66 rfl 0 rfl ?_
      refine J_dup C dX8_put_67 rfl ?_
      refine gf_X8_found C hs wf_X8_55 dX8_put_68 (fun g35 => ?_)
      refine J_iconst C dX8_put_71 ?_
      refine J_iadd C dX8_put_72 ?_
      obtain ⟨g38, h⟩ := h
      refine pf_X8_found C hs wf_X8_55 g38 dX8_put_73 ?_
      obtain ⟨s36, f37⟩ : ∃ z : Sg, z = sI s32 31 4 ((gI s32 31 4) + 1) := ⟨_, rfl⟩
      replace h := h s36 f37
      refine J_sig f37 ?_
      have n39 : gN s36 = gN s := by rw [f37]; exact n34
      exact J_vret C (Nat.zero_le _) (Nat.zero_le _) dX8_put_76 (by rw [hF]; exact ⟨rfl, h, n39⟩)
  refine J_aload_n C dX8_put_0 rfl 0 rfl ?_
  refine gf_X8_found C hs wf_X8_55 dX8_put_1 (fun g21 => ?_)
  refine J_if_le C g21 (tgt := 37) dX8_put_4 (by decide) (fun q52 => ?_) (fun q52 => ?_)
  · replace h := h.1 q52
    exact J_sub [0, 1, 2] rfl (j37 _ _ _ h g1 g2 rfl)
  · replace h := h.2 q52
    refine J_aload_n C dX8_put_7 rfl 0 rfl ?_
    refine gf_X8_ends C hs wf_X8_15 dX8_put_8 ?_
    refine J_aload_n C dX8_put_11 rfl 0 rfl ?_
    refine gf_X8_found C hs wf_X8_55 dX8_put_12 (fun g41 => ?_)
    refine J_iconst C dX8_put_15 ?_
    refine J_isub C dX8_put_16 ?_
    obtain ⟨b42, b43, h⟩ := h
    refine J_iald C (dmC hs kc33 (by decide)) (n := 10) (clE_k E s kc33) (by decide) b42 b43 dX8_put_17 (fun g44 => ?_)
    refine J_iload_n C dX8_put_18 rfl 1 rfl ?_
    refine J_icmp_ne C g44 g1 (tgt := 37) dX8_put_19 (by decide) (fun q51 => ?_) (fun q51 => ?_)
    · replace h := h.2 q51
      exact J_sub [0, 1, 2] rfl (j37 _ _ _ h g1 g2 rfl)
    · replace h := h.1 q51
      refine J_aload_n C dX8_put_22 rfl 0 rfl ?_
      refine gf_X8_ends C hs wf_X8_15 dX8_put_23 ?_
      refine J_aload_n C dX8_put_26 rfl 0 rfl ?_
      refine gf_X8_found C hs wf_X8_55 dX8_put_27 (fun g45 => ?_)
      refine J_iconst C dX8_put_30 ?_
      refine J_isub C dX8_put_31 ?_
      refine J_iload_n C dX8_put_32 rfl 2 rfl ?_
      obtain ⟨b46, b47, h⟩ := h
      refine J_iast C (wrC hs kc33 (by decide)) (n := 10) (fun z => clE_k E z kc33) (by decide) b46 b47 g2 dX8_put_33 ?_
      obtain ⟨s48, f49⟩ : ∃ z : Sg, z = sI s 33 ((gI s 31 4) - 1) x2 := ⟨_, rfl⟩
      replace h := h s48 f49
      refine J_sig f49 ?_
      have n50 : gN s48 = gN s := by rw [f49]; exact rfl
      refine J_goto C (tgt := 76) dX8_put_34 (by decide) ?_
      exact J_vret C (Nat.zero_le _) (Nat.zero_le _) dX8_put_76 (by rw [hF]; exact ⟨rfl, h, n50⟩)
set_option maxHeartbeats 4000000 in
set_option maxRecDepth 100000 in
theorem ct_X8_findStretches {l : Launch} {E : ET} (hs : eS E = true) {s : Sg} {r1 : Nat} (k1 : kdO r1 = 14) {r2 : Nat} (k2 : kdO r2 = 6) {Q : Sg → Prop} (h : wp_X8_findStretches r1 r2 s Q) : MetE l E yX8_findStretches cX8_findStretches 8 none rm_X8_findStretches s [.ref (adE E 31), .ref (adE E r1), .ref (adE E r2)] (qV Q (gN s)) := by
  refine MetJ (by decide +kernel) (Nat.le_of_ble_eq_true rfl) ?_
  intro F hl C hF
  subst hl
  show JJ F E 0 0 s 0 [(0, .ref (adE E 31)), (1, .ref (adE E r1)), (2, .ref (adE E r2))] []
  refine J_aload_n C dX8_findStretches_0 rfl 0 rfl ?_
  refine J_iconst C dX8_findStretches_1 ?_
  refine pf_X8_found C hs wf_X8_55 (rgN 0 (by decide)) dX8_findStretches_2 ?_
  obtain ⟨s21, f22⟩ : ∃ z : Sg, z = sI s 31 4 0 := ⟨_, rfl⟩
  replace h := h s21 f22
  refine J_sig f22 ?_
  have n23 : gN s21 = gN s := by rw [f22]; exact rfl
  refine J_iconst C dX8_findStretches_5 ?_
  refine J_istore_n C dX8_findStretches_6 rfl (by decide) (lv' := [(3, .int (jI 0)), (0, .ref (adE E 31)), (1, .ref (adE E r1)), (2, .ref (adE E r2))]) rfl ?_
  refine J_iconst C dX8_findStretches_7 ?_
  refine J_istore C dX8_findStretches_8 (by decide) (lv' := [(4, .int (jI 0)), (3, .int (jI 0)), (0, .ref (adE E 31)), (1, .ref (adE E r1)), (2, .ref (adE E r2))]) rfl ?_
  replace h := h (fun (x3_10 : Int) (x4_10 : Int) (sL10 : Sg) => rgI x3_10 → rgI x4_10 → gN sL10 = gN s → JJ F E 0 0 sL10 10 [(0, .ref (adE E 31)), (1, .ref (adE E r1)), (2, .ref (adE E r2)), (3, .int (jI x3_10)), (4, .int (jI x4_10))] []) (by
    intro x3_10 x4_10 sL10 h g3_10 g4_10 nL10
    have j83 : ∀ (x3 : Int) (x4 : Int) (sj : Sg), wj_X8_findStretches_83 (fun (x3_10 : Int) (x4_10 : Int) (sL10 : Sg) => rgI x3_10 → rgI x4_10 → gN sL10 = gN s → JJ F E 0 0 sL10 10 [(0, .ref (adE E 31)), (1, .ref (adE E r1)), (2, .ref (adE E r2)), (3, .int (jI x3_10)), (4, .int (jI x4_10))] []) r1 r2 x3 x4 sj Q → rgI x3 → rgI x4 → gN sj = gN s → JJ F E 0 0 sj 83 [(0, .ref (adE E 31)), (1, .ref (adE E r1)), (2, .ref (adE E r2)), (3, .int (jI x3)), (4, .int (jI x4))] [] := by
      intro x3 x4 sj h g3 g4 nj
      refine J_iload_n C dX8_findStretches_83 rfl 3 rfl ?_
      refine J_aload_n C dX8_findStretches_84 rfl 2 rfl ?_
      refine J_iload C dX8_findStretches_85 4 rfl ?_
      refine J_V C (ct_X0_lengthOf hs k2 g4 h) ck_X0_lengthOf wm_X8_104 win_X0_lengthOf wsel_X0_lengthOf (dmC hs k2 (by decide)) (clE_k E sj k2) rfl ⟨rfl, rfl⟩ (by decide) (by decide) (As := [.int (jI x4)]) (rest := [.int (jI x3)]) rfl rfl (Nat.le_of_ble_eq_true rfl) dX8_findStretches_87 (J_pI (fun v42 g44 h => ?_))
      refine J_iadd C dX8_findStretches_90 ?_
      obtain ⟨x3_91, e46⟩ : ∃ v : Int, v = (x3 + v42) := ⟨_, rfl⟩
      obtain ⟨g3_91, h⟩ := h x3_91 e46
      refine J_top e46 ?_
      refine J_istore_n C dX8_findStretches_91 rfl (by decide) (lv' := [(3, .int (jI x3_91)), (0, .ref (adE E 31)), (1, .ref (adE E r1)), (2, .ref (adE E r2)), (4, .int (jI x4))]) rfl ?_
      refine J_iinc C dX8_findStretches_92 4 rfl (by decide) (lv' := [(4, .int (jI (x4 + 1))), (3, .int (jI x3_91)), (0, .ref (adE E 31)), (1, .ref (adE E r1)), (2, .ref (adE E r2))]) rfl ?_
      refine J_goto C (tgt := 10) dX8_findStretches_95 (by decide) ?_
      obtain ⟨g47, h⟩ := h
      exact J_sub [2, 3, 4, 1, 0] rfl (h g3_91 g47 nj)
    refine J_iload C dX8_findStretches_10 4 rfl ?_
    refine J_aload_n C dX8_findStretches_12 rfl 2 rfl ?_
    refine J_V C (ct_X0_size hs k2 h) ck_X0_size wm_X8_83 win_X0_size wsel_X0_size (dmC hs k2 (by decide)) (clE_k E sL10 k2) rfl ⟨rfl, rfl⟩ (by decide) (by decide) (As := []) (rest := [.int (jI x4_10)]) rfl rfl (Nat.le_of_ble_eq_true rfl) dX8_findStretches_13 (J_pI (fun v24 g26 h => ?_))
    refine J_icmp_ge C g4_10 g26 (tgt := 98) dX8_findStretches_16 (by decide) (fun q56 => ?_) (fun q56 => ?_)
    · replace h := h.1 q56
      exact J_vret C (Nat.zero_le _) (Nat.zero_le _) dX8_findStretches_98 (by rw [hF]; exact ⟨rfl, h, nL10⟩)
    · replace h := h.2 q56
      refine J_aload_n C dX8_findStretches_19 rfl 2 rfl ?_
      refine J_iload C dX8_findStretches_20 4 rfl ?_
      refine J_V C (ct_X0_firstOf hs k2 g4_10 h) ck_X0_firstOf wm_X8_86 win_X0_firstOf wsel_X0_firstOf (dmC hs k2 (by decide)) (clE_k E sL10 k2) rfl ⟨rfl, rfl⟩ (by decide) (by decide) (As := [.int (jI x4_10)]) (rest := []) rfl rfl (Nat.le_of_ble_eq_true rfl) dX8_findStretches_22 (J_pI (fun v28 g30 h => ?_))
      refine J_istore C dX8_findStretches_25 (by decide) (lv' := [(5, .int (jI v28)), (0, .ref (adE E 31)), (1, .ref (adE E r1)), (2, .ref (adE E r2)), (3, .int (jI x3_10)), (4, .int (jI x4_10))]) rfl ?_
      refine J_aload_n C dX8_findStretches_27 rfl 2 rfl ?_
      refine gf_X6_first C hs k1 wf_X8_90 dX8_findStretches_28 (fun g32 => ?_)
      refine J_iload C dX8_findStretches_31 0 rfl ?_
      refine J_max C g32 g30 wm_X8_95 wst_max win_Math wco_max (by decide) (Nat.le_of_ble_eq_true rfl) (by decide) dX8_findStretches_33 ?_
      obtain ⟨x6_36, e33⟩ : ∃ v : Int, v = (max (gI sL10 r1 0) v28) := ⟨_, rfl⟩
      replace h := h x6_36 e33
      have g6_36 : rgI x6_36 := by rw [e33]; exact (rg_max g32 g30)
      refine J_top e33 ?_
      refine J_istore C dX8_findStretches_36 (by decide) (lv' := [(6, .int (jI x6_36)), (5, .int (jI v28)), (0, .ref (adE E 31)), (1, .ref (adE E r1)), (2, .ref (adE E r2)), (3, .int (jI x3_10)), (4, .int (jI x4_10))]) rfl ?_
      refine J_aload_n C dX8_findStretches_38 rfl 3 rfl ?_
      refine gf_X6_end C hs k1 wf_X8_101 dX8_findStretches_39 (fun g34 => ?_)
      refine J_iload C dX8_findStretches_42 1 rfl ?_
      refine J_aload_n C dX8_findStretches_44 rfl 4 rfl ?_
      refine J_iload C dX8_findStretches_45 6 rfl ?_
      refine J_V C (ct_X0_lengthOf hs k2 g4_10 h) ck_X0_lengthOf wm_X8_104 win_X0_lengthOf wsel_X0_lengthOf (dmC hs k2 (by decide)) (clE_k E sL10 k2) rfl ⟨rfl, rfl⟩ (by decide) (by decide) (As := [.int (jI x4_10)]) (rest := [.int (jI v28), .int (jI (gI sL10 r1 1))]) rfl rfl (Nat.le_of_ble_eq_true rfl) dX8_findStretches_47 (J_pI (fun v35 g37 h => ?_))
      refine J_iadd C dX8_findStretches_50 ?_
      obtain ⟨g39, h⟩ := h
      refine J_min C g34 g39 wm_X8_107 wst_min win_Math wco_min (by decide) (Nat.le_of_ble_eq_true rfl) (by decide) dX8_findStretches_51 ?_
      obtain ⟨x7_54, e40⟩ : ∃ v : Int, v = (min (gI sL10 r1 1) (v28 + v35)) := ⟨_, rfl⟩
      replace h := h x7_54 e40
      have g7_54 : rgI x7_54 := by rw [e40]; exact (rg_min g34 g39)
      refine J_top e40 ?_
      refine J_istore C dX8_findStretches_54 (by decide) (lv' := [(7, .int (jI x7_54)), (6, .int (jI x6_36)), (5, .int (jI v28)), (0, .ref (adE E 31)), (1, .ref (adE E r1)), (2, .ref (adE E r2)), (3, .int (jI x3_10)), (4, .int (jI x4_10))]) rfl ?_
      refine J_iload C dX8_findStretches_56 0 rfl ?_
      refine J_iload C dX8_findStretches_58 1 rfl ?_
      refine J_isub C dX8_findStretches_60 ?_
      refine J_iconst C dX8_findStretches_61 ?_
      obtain ⟨g41, h⟩ := h
      refine J_icmp_lt C g41 (rgN 4 (by decide)) (tgt := 83) dX8_findStretches_62 (by decide) (fun q55 => ?_) (fun q55 => ?_)
      · replace h := h.1 q55
        exact J_sub [3, 4, 5, 6, 7] rfl (j83 _ _ _ h g3_10 g4_10 nL10)
      · replace h := h.2 q55
        refine J_aload_n C dX8_findStretches_65 rfl 3 rfl ?_
        refine J_iload_n C dX8_findStretches_66 rfl 6 rfl ?_
        refine J_iload C dX8_findStretches_67 1 rfl ?_
        refine J_iadd C dX8_findStretches_69 ?_
        refine J_iload C dX8_findStretches_70 2 rfl ?_
        refine J_isub C dX8_findStretches_72 ?_
        refine J_iload_n C dX8_findStretches_73 rfl 6 rfl ?_
        refine J_iload C dX8_findStretches_74 0 rfl ?_
        refine J_iadd C dX8_findStretches_76 ?_
        refine J_iload C dX8_findStretches_77 2 rfl ?_
        refine J_isub C dX8_findStretches_79 ?_
        obtain ⟨g48, g49, h⟩ := h
        refine J_V C (ct_X8_put hs g48 g49 h) ck_X8_put wm_X8_110 win_X8_put wsel_X8_put (dmC hs kc31 (by decide)) (clE_k E sL10 kc31) rfl ⟨rfl, rfl⟩ (by decide) (by decide) (As := [.int (jI ((x3_10 + x6_36) - v28)), .int (jI ((x3_10 + x7_54) - v28))]) (rest := []) rfl rfl (Nat.le_of_ble_eq_true rfl) dX8_findStretches_80 (J_kV (fun s51 h n53 => ?_))
        have n54 : gN s51 = gN s := n53.trans (nL10)
        exact J_sub [3, 4, 5, 6, 7] rfl (j83 _ _ _ h g3_10 g4_10 n54)
  )
  exact J_sub [2, 3, 4, 1, 0] rfl (h (rgN 0 (by decide)) (rgN 0 (by decide)) n23)
set_option maxHeartbeats 4000000 in
set_option maxRecDepth 100000 in
theorem ct_X8_map {l : Launch} {E : ET} (hs : eS E = true) {s : Sg} {r1 : Nat} (k1 : kdO r1 = 5) {Q : Int → Sg → Prop} (h : wp_X8_map r1 s Q) : MetE l E yX8_map cX8_map 6 (some .boolean) rm_X8_map s [.ref (adE E 31), .ref (adE E r1)] (qZ Q (gN s)) := by
  refine MetJ (by decide +kernel) (Nat.le_of_ble_eq_true rfl) ?_
  intro F hl C hF
  subst hl
  show JJ F E 0 0 s 0 [(0, .ref (adE E 31)), (1, .ref (adE E r1))] []
  refine J_aload_n C dX8_map_0 rfl 0 rfl ?_
  refine gf_X8_result C hs wf_X8_23 dX8_map_1 ?_
  refine gf_X5_track C hs kc34 wf_X8_58 dX8_map_4 ?_
  refine J_astore_n C dX8_map_7 rfl (by decide) (lv' := [(2, .ref (adE E (34 + 8))), (0, .ref (adE E 31)), (1, .ref (adE E r1))]) rfl ?_
  refine J_aload_n C dX8_map_8 rfl 0 rfl ?_
  refine J_V C (ct_X7_empty hs (kd5_track kc34) h) ck_X7_empty wm_X8_62 win_X7_empty wsel_X7_empty (dmC hs (kd5_track kc34) (by decide)) (clE_k E s (kd5_track kc34)) rfl ⟨rfl, rfl⟩ (by decide) (by decide) (As := []) (rest := []) rfl rfl (Nat.le_of_ble_eq_true rfl) dX8_map_9 (J_kV (fun s22 h n24 => ?_))
  have n25 : gN s22 = gN s := n24
  refine J_iconst C dX8_map_12 ?_
  refine J_istore_n C dX8_map_13 rfl (by decide) (lv' := [(3, .int (jI 0)), (2, .ref (adE E (34 + 8))), (0, .ref (adE E 31)), (1, .ref (adE E r1))]) rfl ?_
  replace h := h (fun (x3_14 : Int) (sL14 : Sg) => rgI x3_14 → gN sL14 = gN s → JJ F E 0 0 sL14 14 [(0, .ref (adE E 31)), (1, .ref (adE E r1)), (2, .ref (adE E (34 + 8))), (3, .int (jI x3_14))] []) (by
    intro x3_14 sL14 h g3_14 nL14
    have j62 : ∀ (x3 : Int) (r4 : Nat) (sj : Sg), wj_X8_map_62 (fun (x3_14 : Int) (sL14 : Sg) => rgI x3_14 → gN sL14 = gN s → JJ F E 0 0 sL14 14 [(0, .ref (adE E 31)), (1, .ref (adE E r1)), (2, .ref (adE E (34 + 8))), (3, .int (jI x3_14))] []) r1 x3 r4 sj Q → rgI x3 → kdO r4 = 14 → gN sj = gN s → JJ F E 0 0 sj 62 [(0, .ref (adE E 31)), (1, .ref (adE E r1)), (2, .ref (adE E (34 + 8))), (3, .int (jI x3)), (4, .ref (adE E r4))] [] := by
      intro x3 r4 sj h g3 k4 nj
      refine J_aload_n C dX8_map_62 rfl 2 rfl ?_
      refine J_V C (ct_X7_size hs (kd5_track kc34) h) ck_X7_size wm_X8_67 win_X7_size wsel_X7_size (dmC hs (kd5_track kc34) (by decide)) (clE_k E sj (kd5_track kc34)) rfl ⟨rfl, rfl⟩ (by decide) (by decide) (As := []) (rest := []) rfl rfl (Nat.le_of_ble_eq_true rfl) dX8_map_63 (J_pI (fun v40 g42 h => ?_))
      refine J_aload_n C dX8_map_66 rfl 0 rfl ?_
      refine gf_X8_found C hs wf_X8_55 dX8_map_67 (fun g44 => ?_)
      refine J_iadd C dX8_map_70 ?_
      refine J_bipush C dX8_map_71 (by decide) ?_
      obtain ⟨g45, h⟩ := h
      refine J_icmp_le C g45 (rgN 16 (by decide)) (tgt := 78) dX8_map_73 (by decide) (fun q61 => ?_) (fun q61 => ?_)
      · replace h := h.1 q61
        refine J_iconst C dX8_map_78 ?_
        refine J_istore C dX8_map_79 (by decide) (lv' := [(5, .int (jI 0)), (0, .ref (adE E 31)), (1, .ref (adE E r1)), (2, .ref (adE E (34 + 8))), (3, .int (jI x3)), (4, .ref (adE E r4))]) rfl ?_
        replace h := h (fun (x5_81 : Int) (sL81 : Sg) => rgI x5_81 → gN sL81 = gN s → JJ F E 0 0 sL81 81 [(0, .ref (adE E 31)), (1, .ref (adE E r1)), (2, .ref (adE E (34 + 8))), (3, .int (jI x3)), (4, .ref (adE E r4)), (5, .int (jI x5_81))] []) (by
          intro x5_81 sL81 h g5_81 nL81
          refine J_iload C dX8_map_81 5 rfl ?_
          refine J_aload_n C dX8_map_83 rfl 0 rfl ?_
          refine gf_X8_found C hs wf_X8_55 dX8_map_84 (fun g46 => ?_)
          refine J_icmp_ge C g5_81 g46 (tgt := 116) dX8_map_87 (by decide) (fun q60 => ?_) (fun q60 => ?_)
          · replace h := h.1 q60
            refine J_iinc C dX8_map_116 3 rfl (by decide) (lv' := [(3, .int (jI (x3 + 1))), (0, .ref (adE E 31)), (1, .ref (adE E r1)), (2, .ref (adE E (34 + 8))), (4, .ref (adE E r4)), (5, .int (jI x5_81))]) rfl ?_
            refine J_goto C (tgt := 14) dX8_map_119 (by decide) ?_
            obtain ⟨g47, h⟩ := h
            exact J_sub [1, 2, 3, 0] rfl (h g47 nL81)
          · replace h := h.2 q60
            refine J_aload_n C dX8_map_90 rfl 2 rfl ?_
            refine J_aload C dX8_map_91 4 rfl ?_
            refine J_aload_n C dX8_map_93 rfl 0 rfl ?_
            refine gf_X8_begins C hs wf_X8_9 dX8_map_94 ?_
            refine J_iload C dX8_map_97 5 rfl ?_
            obtain ⟨b48, b49, h⟩ := h
            refine J_iald C (dmC hs kc32 (by decide)) (n := 10) (clE_k E sL81 kc32) (by decide) b48 b49 dX8_map_99 (fun g50 => ?_)
            refine J_aload_n C dX8_map_100 rfl 0 rfl ?_
            refine gf_X8_ends C hs wf_X8_15 dX8_map_101 ?_
            refine J_iload C dX8_map_104 5 rfl ?_
            obtain ⟨b51, b52, h⟩ := h
            refine J_iald C (dmC hs kc33 (by decide)) (n := 10) (clE_k E sL81 kc33) (by decide) b51 b52 dX8_map_106 (fun g53 => ?_)
            refine J_V C (ct_X7_insertLike hs (kd5_track kc34) k4 g50 g53 h) ck_X7_insertLike wm_X8_79 win_X7_insertLike wsel_X7_insertLike (dmC hs (kd5_track kc34) (by decide)) (clE_k E sL81 (kd5_track kc34)) rfl ⟨rfl, rfl⟩ (by decide) (by decide) (As := [.ref (adE E r4), .int (jI (gI sL81 32 x5_81)), .int (jI (gI sL81 33 x5_81))]) (rest := []) rfl rfl (Nat.le_of_ble_eq_true rfl) dX8_map_107 (J_kV (fun s55 h n57 => ?_))
            have n58 : gN s55 = gN s := n57.trans (nL81)
            refine J_iinc C dX8_map_110 5 rfl (by decide) (lv' := [(5, .int (jI (x5_81 + 1))), (0, .ref (adE E 31)), (1, .ref (adE E r1)), (2, .ref (adE E (34 + 8))), (3, .int (jI x3)), (4, .ref (adE E r4))]) rfl ?_
            refine J_goto C (tgt := 81) dX8_map_113 (by decide) ?_
            obtain ⟨g59, h⟩ := h
            exact J_sub [1, 2, 3, 4, 5, 0] rfl (h g59 n58)
        )
        exact J_sub [1, 2, 3, 4, 5, 0] rfl (h (rgN 0 (by decide)) nj)
      · replace h := h.2 q61
        refine J_iconst C dX8_map_76 ?_
        exact J_zret C (Nat.zero_le _) (Nat.zero_le _) (nar_z (Or.inl rfl)) dX8_map_77 (by rw [hF]; exact ⟨_, rfl, (Or.inl rfl), h, nj⟩)
    refine J_iload_n C dX8_map_14 rfl 3 rfl ?_
    refine J_aload_n C dX8_map_15 rfl 1 rfl ?_
    refine gf_X5_track C hs k1 wf_X8_58 dX8_map_16 ?_
    refine J_V C (ct_X7_size hs (kd5_track k1) h) ck_X7_size wm_X8_67 win_X7_size wsel_X7_size (dmC hs (kd5_track k1) (by decide)) (clE_k E sL14 (kd5_track k1)) rfl ⟨rfl, rfl⟩ (by decide) (by decide) (As := []) (rest := [.int (jI x3_14)]) rfl rfl (Nat.le_of_ble_eq_true rfl) dX8_map_19 (J_pI (fun v26 g28 h => ?_))
    refine J_icmp_ge C g3_14 g28 (tgt := 122) dX8_map_22 (by decide) (fun q68 => ?_) (fun q68 => ?_)
    · replace h := h.1 q68
      refine J_iconst C dX8_map_122 ?_
      exact J_zret C (Nat.zero_le _) (Nat.zero_le _) (nar_z (Or.inr rfl)) dX8_map_123 (by rw [hF]; exact ⟨_, rfl, (Or.inr rfl), h, nL14⟩)
    · replace h := h.2 q68
      refine J_aload_n C dX8_map_25 rfl 1 rfl ?_
      refine gf_X5_track C hs k1 wf_X8_58 dX8_map_26 ?_
      refine J_iload_n C dX8_map_29 rfl 3 rfl ?_
      refine J_V C (ct_X7_at hs (kd5_track k1) g3_14 h) ck_X7_at wm_X8_71 win_X7_at wsel_X7_at (dmC hs (kd5_track k1) (by decide)) (clE_k E sL14 (kd5_track k1)) rfl ⟨rfl, rfl⟩ (by decide) (by decide) (As := [.int (jI x3_14)]) (rest := []) rfl rfl (Nat.le_of_ble_eq_true rfl) dX8_map_30 (J_pR (fun r30 g32 h => ?_))
      refine J_astore C dX8_map_33 (by decide) (lv' := [(4, .ref (adE E r30)), (0, .ref (adE E 31)), (1, .ref (adE E r1)), (2, .ref (adE E (34 + 8))), (3, .int (jI x3_14))]) rfl ?_
      refine J_aload_n C dX8_map_35 rfl 1 rfl ?_
      refine J_aload C dX8_map_36 0 rfl ?_
      refine J_aload_n C dX8_map_38 rfl 2 rfl ?_
      refine gf_X5_cut C hs k1 wf_X8_75 dX8_map_39 ?_
      refine J_V C (ct_X8_findStretches hs g32 (kd5_cut k1) h) ck_X8_findStretches wm_X8_51 win_X8_findStretches wsel_X8_findStretches (dmC hs kc31 (by decide)) (clE_k E sL14 kc31) rfl ⟨rfl, rfl⟩ (by decide) (by decide) (As := [.ref (adE E r30), .ref (adE E (r1 + 1))]) (rest := []) rfl rfl (Nat.le_of_ble_eq_true rfl) dX8_map_42 (J_kV (fun s35 h n37 => ?_))
      have n38 : gN s35 = gN s := n37.trans (nL14)
      refine J_aload_n C dX8_map_45 rfl 1 rfl ?_
      refine gf_X8_found C hs wf_X8_55 dX8_map_46 (fun g39 => ?_)
      refine J_if_ne C g39 (tgt := 62) dX8_map_49 (by decide) (fun q67 => ?_) (fun q67 => ?_)
      · replace h := h.2 q67
        exact J_sub [1, 2, 3, 4, 0] rfl (j62 _ _ _ h g3_14 g32 n38)
      · replace h := h.1 q67
        refine J_aload_n C dX8_map_52 rfl 1 rfl ?_
        refine J_dup C dX8_map_53 rfl ?_
        refine gf_X8_lost C hs wf_X8_31 dX8_map_54 (fun g62 => ?_)
        refine J_iconst C dX8_map_57 ?_
        refine J_iadd C dX8_map_58 ?_
        obtain ⟨g65, h⟩ := h
        refine pf_X8_lost C hs wf_X8_31 g65 dX8_map_59 ?_
        obtain ⟨s63, f64⟩ : ∃ z : Sg, z = sI s35 31 1 ((gI s35 31 1) + 1) := ⟨_, rfl⟩
        replace h := h s63 f64
        refine J_sig f64 ?_
        have n66 : gN s63 = gN s := by rw [f64]; exact n38
        exact J_sub [1, 2, 3, 4, 0] rfl (j62 _ _ _ h g3_14 g32 n66)
  )
  exact J_sub [2, 3, 1, 0] rfl (h (rgN 0 (by decide)) n25)
set_option maxHeartbeats 4000000 in
set_option maxRecDepth 100000 in
theorem ct_X8_merge {l : Launch} {E : ET} (hs : eS E = true) {s : Sg} {Q : Sg → Prop} (h : wp_X8_merge s Q) : MetE l E yX8_merge cX8_merge 3 none rm_X8_merge s [.ref (adE E 31)] (qV Q (gN s)) := by
  refine MetJ (by decide +kernel) (Nat.le_of_ble_eq_true rfl) ?_
  intro F hl C hF
  subst hl
  show JJ F E 0 0 s 0 [(0, .ref (adE E 31))] []
  refine J_aload_n C dX8_merge_0 rfl 0 rfl ?_
  refine gf_X8_result C hs wf_X8_23 dX8_merge_1 ?_
  refine gf_X5_track C hs kc34 wf_X8_58 dX8_merge_4 ?_
  refine J_astore_n C dX8_merge_7 rfl (by decide) (lv' := [(1, .ref (adE E (34 + 8))), (0, .ref (adE E 31))]) rfl ?_
  refine J_iconst C dX8_merge_8 ?_
  refine J_istore_n C dX8_merge_9 rfl (by decide) (lv' := [(2, .int (jI 0)), (1, .ref (adE E (34 + 8))), (0, .ref (adE E 31))]) rfl ?_
  replace h := h (fun (x2_10 : Int) (sL10 : Sg) => rgI x2_10 → gN sL10 = gN s → JJ F E 0 0 sL10 10 [(1, .ref (adE E (34 + 8))), (2, .int (jI x2_10))] []) (by
    intro x2_10 sL10 h g2_10 nL10
    have j60 : ∀ (x2 : Int) (sj : Sg), wj_X8_merge_60 (fun (x2_10 : Int) (sL10 : Sg) => rgI x2_10 → gN sL10 = gN s → JJ F E 0 0 sL10 10 [(1, .ref (adE E (34 + 8))), (2, .int (jI x2_10))] [])  x2 sj Q → rgI x2 → gN sj = gN s → JJ F E 0 0 sj 60 [(1, .ref (adE E (34 + 8))), (2, .int (jI x2))] [] := by
      intro x2 sj h g2 nj
      refine J_iinc C dX8_merge_60 1 rfl (by decide) (lv' := [(2, .int (jI (x2 + 1))), (1, .ref (adE E (34 + 8)))]) rfl ?_
      refine J_goto C (tgt := 10) dX8_merge_63 (by decide) ?_
      obtain ⟨g39, h⟩ := h
      exact J_sub [1, 0] rfl (h g39 nj)
    refine J_iload_n C dX8_merge_10 rfl 1 rfl ?_
    refine J_iconst C dX8_merge_11 ?_
    refine J_iadd C dX8_merge_12 ?_
    refine J_aload_n C dX8_merge_13 rfl 0 rfl ?_
    refine J_V C (ct_X7_size hs (kd5_track kc34) h) ck_X7_size wm_X8_67 win_X7_size wsel_X7_size (dmC hs (kd5_track kc34) (by decide)) (clE_k E sL10 (kd5_track kc34)) rfl ⟨rfl, rfl⟩ (by decide) (by decide) (As := []) (rest := [.int (jI (x2_10 + 1))]) rfl rfl (Nat.le_of_ble_eq_true rfl) dX8_merge_14 (J_pI (fun v21 g23 h => ?_))
    obtain ⟨g25, h⟩ := h
    refine J_icmp_ge C g25 g23 (tgt := 66) dX8_merge_17 (by decide) (fun q61 => ?_) (fun q61 => ?_)
    · replace h := h.1 q61
      exact J_vret C (Nat.zero_le _) (Nat.zero_le _) dX8_merge_66 (by rw [hF]; exact ⟨rfl, h, nL10⟩)
    · replace h := h.2 q61
      refine J_aload_n C dX8_merge_20 rfl 0 rfl ?_
      refine J_iload_n C dX8_merge_21 rfl 1 rfl ?_
      refine J_V C (ct_X7_at hs (kd5_track kc34) g2_10 h) ck_X7_at wm_X8_71 win_X7_at wsel_X7_at (dmC hs (kd5_track kc34) (by decide)) (clE_k E sL10 (kd5_track kc34)) rfl ⟨rfl, rfl⟩ (by decide) (by decide) (As := [.int (jI x2_10)]) (rest := []) rfl rfl (Nat.le_of_ble_eq_true rfl) dX8_merge_22 (J_pR (fun r26 g28 h => ?_))
      refine J_aload_n C dX8_merge_25 rfl 0 rfl ?_
      refine J_iload_n C dX8_merge_26 rfl 1 rfl ?_
      refine J_iconst C dX8_merge_27 ?_
      refine J_iadd C dX8_merge_28 ?_
      obtain ⟨g30, h⟩ := h
      refine J_V C (ct_X7_at hs (kd5_track kc34) g30 h) ck_X7_at wm_X8_71 win_X7_at wsel_X7_at (dmC hs (kd5_track kc34) (by decide)) (clE_k E sL10 (kd5_track kc34)) rfl ⟨rfl, rfl⟩ (by decide) (by decide) (As := [.int (jI (x2_10 + 1))]) (rest := [.ref (adE E r26)]) rfl rfl (Nat.le_of_ble_eq_true rfl) dX8_merge_29 (J_pR (fun r31 g33 h => ?_))
      refine J_V C (ct_X6_overlaps hs g28 g33 h) ck_X6_overlaps wm_X8_114 win_X6_overlaps wsel_X6_overlaps (dmC hs g28 (by decide)) (clE_k E sL10 g28) rfl ⟨rfl, rfl⟩ (by decide) (by decide) (As := [.ref (adE E r31)]) (rest := []) rfl rfl (Nat.le_of_ble_eq_true rfl) dX8_merge_32 (J_pZ (fun v35 g37 h => ?_))
      refine J_if_eq C (rg_z g37) (tgt := 60) dX8_merge_35 (by decide) (fun q60 => ?_) (fun q60 => ?_)
      · replace h := h.1 q60
        exact J_sub [0, 1] rfl (j60 _ _ h g2_10 nL10)
      · replace h := h.2 q60
        refine J_aload_n C dX8_merge_38 rfl 0 rfl ?_
        refine J_iload_n C dX8_merge_39 rfl 1 rfl ?_
        refine J_V C (ct_X7_at hs (kd5_track kc34) g2_10 h) ck_X7_at wm_X8_71 win_X7_at wsel_X7_at (dmC hs (kd5_track kc34) (by decide)) (clE_k E sL10 (kd5_track kc34)) rfl ⟨rfl, rfl⟩ (by decide) (by decide) (As := [.int (jI x2_10)]) (rest := []) rfl rfl (Nat.le_of_ble_eq_true rfl) dX8_merge_40 (J_pR (fun r40 g42 h => ?_))
        refine J_aload_n C dX8_merge_43 rfl 0 rfl ?_
        refine J_iload_n C dX8_merge_44 rfl 1 rfl ?_
        refine J_iconst C dX8_merge_45 ?_
        refine J_iadd C dX8_merge_46 ?_
        obtain ⟨g44, h⟩ := h
        refine J_V C (ct_X7_at hs (kd5_track kc34) g44 h) ck_X7_at wm_X8_71 win_X7_at wsel_X7_at (dmC hs (kd5_track kc34) (by decide)) (clE_k E sL10 (kd5_track kc34)) rfl ⟨rfl, rfl⟩ (by decide) (by decide) (As := [.int (jI (x2_10 + 1))]) (rest := [.ref (adE E r40)]) rfl rfl (Nat.le_of_ble_eq_true rfl) dX8_merge_47 (J_pR (fun r45 g47 h => ?_))
        refine J_V C (ct_X6_takeIn hs g42 g47 h) ck_X6_takeIn wm_X8_118 win_X6_takeIn wsel_X6_takeIn (dmC hs g42 (by decide)) (clE_k E sL10 g42) rfl ⟨rfl, rfl⟩ (by decide) (by decide) (As := [.ref (adE E r45)]) (rest := []) rfl rfl (Nat.le_of_ble_eq_true rfl) dX8_merge_50 (J_kV (fun s50 h n52 => ?_))
        have n53 : gN s50 = gN s := n52.trans (nL10)
        refine J_aload_n C dX8_merge_53 rfl 0 rfl ?_
        refine J_iload_n C dX8_merge_54 rfl 1 rfl ?_
        refine J_iconst C dX8_merge_55 ?_
        refine J_iadd C dX8_merge_56 ?_
        obtain ⟨g54, h⟩ := h
        refine J_V C (ct_X7_remove hs (kd5_track kc34) g54 h) ck_X7_remove wm_X8_122 win_X7_remove wsel_X7_remove (dmC hs (kd5_track kc34) (by decide)) (clE_k E s50 (kd5_track kc34)) rfl ⟨rfl, rfl⟩ (by decide) (by decide) (As := [.int (jI (x2_10 + 1))]) (rest := []) rfl rfl (Nat.le_of_ble_eq_true rfl) dX8_merge_57 (J_kV (fun s56 h n58 => ?_))
        have n59 : gN s56 = gN s := n58.trans (n53)
        exact J_sub [0, 1] rfl (j60 _ _ h g2_10 n59)
  )
  exact J_sub [1, 0] rfl (h (rgN 0 (by decide)) rfl)
set_option maxHeartbeats 4000000 in
set_option maxRecDepth 100000 in
theorem ct_X8_stretch {l : Launch} {E : ET} (hs : eS E = true) {s : Sg} {Q : Sg → Prop} (h : wp_X8_stretch s Q) : MetE l E yX8_stretch cX8_stretch 6 none rm_X8_stretch s [.ref (adE E 31)] (qV Q (gN s)) := by
  refine MetJ (by decide +kernel) (Nat.le_of_ble_eq_true rfl) ?_
  intro F hl C hF
  subst hl
  show JJ F E 0 0 s 0 [(0, .ref (adE E 31))] []
  refine J_aload_n C dX8_stretch_0 rfl 0 rfl ?_
  refine gf_X8_result C hs wf_X8_23 dX8_stretch_1 ?_
  refine gf_X5_cut C hs kc34 wf_X8_75 dX8_stretch_4 ?_
  refine J_V C (ct_X0_frames hs (kd5_cut kc34) h) ck_X0_frames wm_X8_126 win_X0_frames wsel_X0_frames (dmC hs (kd5_cut kc34) (by decide)) (clE_k E s (kd5_cut kc34)) rfl ⟨rfl, rfl⟩ (by decide) (by decide) (As := []) (rest := []) rfl rfl (Nat.le_of_ble_eq_true rfl) dX8_stretch_7 (J_pI (fun v21 g23 h => ?_))
  refine J_istore_n C dX8_stretch_10 rfl (by decide) (lv' := [(1, .int (jI v21)), (0, .ref (adE E 31))]) rfl ?_
  refine J_iconst C dX8_stretch_11 ?_
  refine J_istore_n C dX8_stretch_12 rfl (by decide) (lv' := [(2, .int (jI 0)), (1, .int (jI v21)), (0, .ref (adE E 31))]) rfl ?_
  replace h := h (fun (x2_13 : Int) (sL13 : Sg) => rgI x2_13 → gN sL13 = gN s → JJ F E 0 0 sL13 13 [(0, .ref (adE E 31)), (1, .int (jI v21)), (2, .int (jI x2_13))] []) (by
    intro x2_13 sL13 h g2_13 nL13
    refine J_iload_n C dX8_stretch_13 rfl 2 rfl ?_
    refine J_aload_n C dX8_stretch_14 rfl 0 rfl ?_
    refine gf_X8_result C hs wf_X8_23 dX8_stretch_15 ?_
    refine gf_X5_track C hs kc34 wf_X8_58 dX8_stretch_18 ?_
    refine J_V C (ct_X7_size hs (kd5_track kc34) h) ck_X7_size wm_X8_67 win_X7_size wsel_X7_size (dmC hs (kd5_track kc34) (by decide)) (clE_k E sL13 (kd5_track kc34)) rfl ⟨rfl, rfl⟩ (by decide) (by decide) (As := []) (rest := [.int (jI x2_13)]) rfl rfl (Nat.le_of_ble_eq_true rfl) dX8_stretch_21 (J_pI (fun v25 g27 h => ?_))
    refine J_icmp_ge C g2_13 g27 (tgt := 92) dX8_stretch_24 (by decide) (fun q49 => ?_) (fun q49 => ?_)
    · replace h := h.1 q49
      exact J_vret C (Nat.zero_le _) (Nat.zero_le _) dX8_stretch_92 (by rw [hF]; exact ⟨rfl, h, nL13⟩)
    · replace h := h.2 q49
      refine J_aload_n C dX8_stretch_27 rfl 0 rfl ?_
      refine gf_X8_result C hs wf_X8_23 dX8_stretch_28 ?_
      refine gf_X5_track C hs kc34 wf_X8_58 dX8_stretch_31 ?_
      refine J_iload_n C dX8_stretch_34 rfl 2 rfl ?_
      refine J_V C (ct_X7_at hs (kd5_track kc34) g2_13 h) ck_X7_at wm_X8_71 win_X7_at wsel_X7_at (dmC hs (kd5_track kc34) (by decide)) (clE_k E sL13 (kd5_track kc34)) rfl ⟨rfl, rfl⟩ (by decide) (by decide) (As := [.int (jI x2_13)]) (rest := []) rfl rfl (Nat.le_of_ble_eq_true rfl) dX8_stretch_35 (J_pR (fun r29 g31 h => ?_))
      refine J_astore_n C dX8_stretch_38 rfl (by decide) (lv' := [(3, .ref (adE E r29)), (0, .ref (adE E 31)), (1, .int (jI v21)), (2, .int (jI x2_13))]) rfl ?_
      refine J_iload_n C dX8_stretch_39 rfl 2 rfl ?_
      refine J_aload_n C dX8_stretch_40 rfl 1 rfl ?_
      refine gf_X8_result C hs wf_X8_23 dX8_stretch_41 ?_
      refine J_iload_n C dX8_stretch_44 rfl 3 rfl ?_
      refine J_V C (ct_X5_latestEnd hs kc34 g2_13 h) ck_X5_latestEnd wm_X8_129 win_X5_latestEnd wsel_X5_latestEnd (dmC hs kc34 (by decide)) (clE_k E sL13 kc34) rfl ⟨rfl, rfl⟩ (by decide) (by decide) (As := [.int (jI x2_13)]) (rest := [.int (jI v21)]) rfl rfl (Nat.le_of_ble_eq_true rfl) dX8_stretch_45 (J_pI (fun v33 g35 h => ?_))
      refine J_min C g23 g35 wm_X8_107 wst_min win_Math wco_min (by decide) (Nat.le_of_ble_eq_true rfl) (by decide) dX8_stretch_48 ?_
      obtain ⟨x4_51, e37⟩ : ∃ v : Int, v = (min v21 v33) := ⟨_, rfl⟩
      replace h := h x4_51 e37
      have g4_51 : rgI x4_51 := by rw [e37]; exact (rg_min g23 g35)
      refine J_top e37 ?_
      refine J_istore C dX8_stretch_51 (by decide) (lv' := [(4, .int (jI x4_51)), (3, .ref (adE E r29)), (0, .ref (adE E 31)), (1, .int (jI v21)), (2, .int (jI x2_13))]) rfl ?_
      refine J_aload_n C dX8_stretch_53 rfl 1 rfl ?_
      refine gf_X6_first C hs g31 wf_X8_90 dX8_stretch_54 (fun g38 => ?_)
      refine J_aload_n C dX8_stretch_57 rfl 2 rfl ?_
      refine gf_X8_result C hs wf_X8_23 dX8_stretch_58 ?_
      refine J_aload_n C dX8_stretch_61 rfl 1 rfl ?_
      refine J_V C (ct_X5_readingLength hs kc34 g31 h) ck_X5_readingLength wm_X8_132 win_X5_readingLength wsel_X5_readingLength (dmC hs kc34 (by decide)) (clE_k E sL13 kc34) rfl ⟨rfl, rfl⟩ (by decide) (by decide) (As := [.ref (adE E r29)]) (rest := [.int (jI (gI sL13 r29 0))]) rfl rfl (Nat.le_of_ble_eq_true rfl) dX8_stretch_62 (J_pI (fun v39 g41 h => ?_))
      refine J_iadd C dX8_stretch_65 ?_
      obtain ⟨x5_66, e43⟩ : ∃ v : Int, v = ((gI sL13 r29 0) + v39) := ⟨_, rfl⟩
      obtain ⟨g5_66, h⟩ := h x5_66 e43
      refine J_top e43 ?_
      refine J_istore C dX8_stretch_66 (by decide) (lv' := [(5, .int (jI x5_66)), (4, .int (jI x4_51)), (3, .ref (adE E r29)), (0, .ref (adE E 31)), (1, .int (jI v21)), (2, .int (jI x2_13))]) rfl ?_
      refine J_aload_n C dX8_stretch_68 rfl 2 rfl ?_
      refine J_aload_n C dX8_stretch_69 rfl 2 rfl ?_
      refine gf_X6_end C hs g31 wf_X8_101 dX8_stretch_70 (fun g44 => ?_)
      refine J_iload C dX8_stretch_73 0 rfl ?_
      refine J_iload C dX8_stretch_75 1 rfl ?_
      refine J_min C g5_66 g4_51 wm_X8_107 wst_min win_Math wco_min (by decide) (Nat.le_of_ble_eq_true rfl) (by decide) dX8_stretch_77 ?_
      refine J_max C g44 (rg_min g5_66 g4_51) wm_X8_95 wst_max win_Math wco_max (by decide) (Nat.le_of_ble_eq_true rfl) (by decide) dX8_stretch_80 ?_
      refine pf_X6_end C hs g31 wf_X8_101 (rg_max g44 (rg_min g5_66 g4_51)) dX8_stretch_83 ?_
      obtain ⟨s45, f46⟩ : ∃ z : Sg, z = sI sL13 r29 1 (max (gI sL13 r29 1) (min x5_66 x4_51)) := ⟨_, rfl⟩
      replace h := h s45 f46
      refine J_sig f46 ?_
      have n47 : gN s45 = gN s := by rw [f46]; exact nL13
      refine J_iinc C dX8_stretch_86 5 rfl (by decide) (lv' := [(2, .int (jI (x2_13 + 1))), (5, .int (jI x5_66)), (4, .int (jI x4_51)), (3, .ref (adE E r29)), (0, .ref (adE E 31)), (1, .int (jI v21))]) rfl ?_
      refine J_goto C (tgt := 13) dX8_stretch_89 (by decide) ?_
      obtain ⟨g48, h⟩ := h
      exact J_sub [4, 5, 0] rfl (h g48 n47)
  )
  exact J_sub [2, 1, 0] rfl (h (rgN 0 (by decide)) rfl)
set_option maxHeartbeats 4000000 in
set_option maxRecDepth 100000 in
theorem ct_X8_snap {l : Launch} {E : ET} (hs : eS E = true) {s : Sg} {Q : Sg → Prop} (h : wp_X8_snap s Q) : MetE l E yX8_snap cX8_snap 5 none rm_X8_snap s [.ref (adE E 31)] (qV Q (gN s)) := by
  refine MetJ (by decide +kernel) (Nat.le_of_ble_eq_true rfl) ?_
  intro F hl C hF
  subst hl
  show JJ F E 0 0 s 0 [(0, .ref (adE E 31))] []
  refine J_aload_n C dX8_snap_0 rfl 0 rfl ?_
  refine gf_X8_result C hs wf_X8_23 dX8_snap_1 ?_
  refine gf_X5_settings C hs kc34 wf_X8_136 dX8_snap_4 ?_
  refine J_iconst C dX8_snap_7 ?_
  refine J_V C (ct_X3_at hs (kd5_settings kc34) (rgN 3 (by decide)) h) ck_X3_at wm_X8_140 win_X3_at wsel_X3_at (dmC hs (kd5_settings kc34) (by decide)) (clE_k E s (kd5_settings kc34)) rfl ⟨rfl, rfl⟩ (by decide) (by decide) (As := [.int (jI 3)]) (rest := []) rfl rfl (Nat.le_of_ble_eq_true rfl) dX8_snap_8 (J_pI (fun v21 g23 h => ?_))
  refine J_istore_n C dX8_snap_11 rfl (by decide) (lv' := [(1, .int (jI v21)), (0, .ref (adE E 31))]) rfl ?_
  refine J_iconst C dX8_snap_12 ?_
  refine J_istore_n C dX8_snap_13 rfl (by decide) (lv' := [(2, .int (jI 0)), (1, .int (jI v21)), (0, .ref (adE E 31))]) rfl ?_
  replace h := h (fun (x2_14 : Int) (sL14 : Sg) => rgI x2_14 → gN sL14 = gN s → JJ F E 0 0 sL14 14 [(0, .ref (adE E 31)), (1, .int (jI v21)), (2, .int (jI x2_14))] []) (by
    intro x2_14 sL14 h g2_14 nL14
    have j118 : ∀ (x2 : Int) (sj : Sg), wj_X8_snap_118 (fun (x2_14 : Int) (sL14 : Sg) => rgI x2_14 → gN sL14 = gN s → JJ F E 0 0 sL14 14 [(0, .ref (adE E 31)), (1, .int (jI v21)), (2, .int (jI x2_14))] []) v21 x2 sj Q → rgI x2 → gN sj = gN s → JJ F E 0 0 sj 118 [(0, .ref (adE E 31)), (1, .int (jI v21)), (2, .int (jI x2))] [] := by
      intro x2 sj h g2 nj
      refine J_iinc C dX8_snap_118 2 rfl (by decide) (lv' := [(2, .int (jI (x2 + 1))), (0, .ref (adE E 31)), (1, .int (jI v21))]) rfl ?_
      refine J_goto C (tgt := 14) dX8_snap_121 (by decide) ?_
      obtain ⟨g48, h⟩ := h
      exact J_sub [1, 2, 0] rfl (h g48 nj)
    have j79 : ∀ (x2 : Int) (r3 : Nat) (sj : Sg), wj_X8_snap_79 (fun (x2_14 : Int) (sL14 : Sg) => rgI x2_14 → gN sL14 = gN s → JJ F E 0 0 sL14 14 [(0, .ref (adE E 31)), (1, .int (jI v21)), (2, .int (jI x2_14))] []) v21 x2 r3 sj Q → rgI x2 → kdO r3 = 14 → gN sj = gN s → JJ F E 0 0 sj 79 [(0, .ref (adE E 31)), (1, .int (jI v21)), (2, .int (jI x2)), (3, .ref (adE E r3))] [] := by
      intro x2 r3 sj h g2 k3 nj
      refine J_aload_n C dX8_snap_79 rfl 0 rfl ?_
      refine gf_X8_result C hs wf_X8_23 dX8_snap_80 ?_
      refine gf_X5_shots C hs kc34 wf_X8_144 dX8_snap_83 ?_
      refine J_aload_n C dX8_snap_86 rfl 3 rfl ?_
      refine gf_X6_end C hs k3 wf_X8_101 dX8_snap_87 (fun g43 => ?_)
      refine J_iload_n C dX8_snap_90 rfl 1 rfl ?_
      refine J_V C (ct_X4_nearest hs (kd5_shots kc34) g43 g23 h) ck_X4_nearest wm_X8_148 win_X4_nearest wsel_X4_nearest (dmC hs (kd5_shots kc34) (by decide)) (clE_k E sj (kd5_shots kc34)) rfl ⟨rfl, rfl⟩ (by decide) (by decide) (As := [.int (jI (gI sj r3 1)), .int (jI v21)]) (rest := []) rfl rfl (Nat.le_of_ble_eq_true rfl) dX8_snap_91 (J_pI (fun v44 g46 h => ?_))
      refine J_istore C dX8_snap_94 (by decide) (lv' := [(4, .int (jI v44)), (0, .ref (adE E 31)), (1, .int (jI v21)), (2, .int (jI x2)), (3, .ref (adE E r3))]) rfl ?_
      refine J_iload C dX8_snap_96 0 rfl ?_
      refine J_bipush C dX8_snap_98 (by decide) ?_
      refine J_icmp_eq C g46 (rgN (-9) (by decide)) (tgt := 118) dX8_snap_100 (by decide) (fun q54 => ?_) (fun q54 => ?_)
      · replace h := h.1 q54
        exact J_sub [1, 2, 3] rfl (j118 _ _ h g2 nj)
      · replace h := h.2 q54
        refine J_iload C dX8_snap_103 0 rfl ?_
        refine J_aload_n C dX8_snap_105 rfl 4 rfl ?_
        refine gf_X6_first C hs k3 wf_X8_90 dX8_snap_106 (fun g49 => ?_)
        refine J_icmp_le C g46 g49 (tgt := 118) dX8_snap_109 (by decide) (fun q53 => ?_) (fun q53 => ?_)
        · replace h := h.1 q53
          exact J_sub [1, 2, 3] rfl (j118 _ _ h g2 nj)
        · replace h := h.2 q53
          refine J_aload_n C dX8_snap_112 rfl 4 rfl ?_
          refine J_iload C dX8_snap_113 0 rfl ?_
          refine pf_X6_end C hs k3 wf_X8_101 g46 dX8_snap_115 ?_
          obtain ⟨s50, f51⟩ : ∃ z : Sg, z = sI sj r3 1 v44 := ⟨_, rfl⟩
          replace h := h s50 f51
          refine J_sig f51 ?_
          have n52 : gN s50 = gN s := by rw [f51]; exact nj
          exact J_sub [1, 2, 3] rfl (j118 _ _ h g2 n52)
    refine J_iload_n C dX8_snap_14 rfl 2 rfl ?_
    refine J_aload_n C dX8_snap_15 rfl 0 rfl ?_
    refine gf_X8_result C hs wf_X8_23 dX8_snap_16 ?_
    refine gf_X5_track C hs kc34 wf_X8_58 dX8_snap_19 ?_
    refine J_V C (ct_X7_size hs (kd5_track kc34) h) ck_X7_size wm_X8_67 win_X7_size wsel_X7_size (dmC hs (kd5_track kc34) (by decide)) (clE_k E sL14 (kd5_track kc34)) rfl ⟨rfl, rfl⟩ (by decide) (by decide) (As := []) (rest := [.int (jI x2_14)]) rfl rfl (Nat.le_of_ble_eq_true rfl) dX8_snap_22 (J_pI (fun v25 g27 h => ?_))
    refine J_icmp_ge C g2_14 g27 (tgt := 124) dX8_snap_25 (by decide) (fun q61 => ?_) (fun q61 => ?_)
    · replace h := h.1 q61
      refine J_aload_n C dX8_snap_124 rfl 0 rfl ?_
      refine gf_X8_result C hs wf_X8_23 dX8_snap_125 ?_
      refine gf_X5_track C hs kc34 wf_X8_58 dX8_snap_128 ?_
      refine J_V C (ct_X7_settleAll hs (kd5_track kc34) h) ck_X7_settleAll wm_X8_153 win_X7_settleAll wsel_X7_settleAll (dmC hs (kd5_track kc34) (by decide)) (clE_k E sL14 (kd5_track kc34)) rfl ⟨rfl, rfl⟩ (by decide) (by decide) (As := []) (rest := []) rfl rfl (Nat.le_of_ble_eq_true rfl) dX8_snap_131 (J_kV (fun s30 h n32 => ?_))
      have n33 : gN s30 = gN s := n32.trans (nL14)
      exact J_vret C (Nat.zero_le _) (Nat.zero_le _) dX8_snap_134 (by rw [hF]; exact ⟨rfl, h, n33⟩)
    · replace h := h.2 q61
      refine J_aload_n C dX8_snap_28 rfl 0 rfl ?_
      refine gf_X8_result C hs wf_X8_23 dX8_snap_29 ?_
      refine gf_X5_track C hs kc34 wf_X8_58 dX8_snap_32 ?_
      refine J_iload_n C dX8_snap_35 rfl 2 rfl ?_
      refine J_V C (ct_X7_at hs (kd5_track kc34) g2_14 h) ck_X7_at wm_X8_71 win_X7_at wsel_X7_at (dmC hs (kd5_track kc34) (by decide)) (clE_k E sL14 (kd5_track kc34)) rfl ⟨rfl, rfl⟩ (by decide) (by decide) (As := [.int (jI x2_14)]) (rest := []) rfl rfl (Nat.le_of_ble_eq_true rfl) dX8_snap_36 (J_pR (fun r34 g36 h => ?_))
      refine J_astore_n C dX8_snap_39 rfl (by decide) (lv' := [(3, .ref (adE E r34)), (0, .ref (adE E 31)), (1, .int (jI v21)), (2, .int (jI x2_14))]) rfl ?_
      refine J_aload_n C dX8_snap_40 rfl 1 rfl ?_
      refine gf_X8_result C hs wf_X8_23 dX8_snap_41 ?_
      refine gf_X5_shots C hs kc34 wf_X8_144 dX8_snap_44 ?_
      refine J_aload_n C dX8_snap_47 rfl 0 rfl ?_
      refine gf_X6_first C hs g36 wf_X8_90 dX8_snap_48 (fun g38 => ?_)
      refine J_iload_n C dX8_snap_51 rfl 2 rfl ?_
      refine J_V C (ct_X4_nearest hs (kd5_shots kc34) g38 g23 h) ck_X4_nearest wm_X8_148 win_X4_nearest wsel_X4_nearest (dmC hs (kd5_shots kc34) (by decide)) (clE_k E sL14 (kd5_shots kc34)) rfl ⟨rfl, rfl⟩ (by decide) (by decide) (As := [.int (jI (gI sL14 r34 0)), .int (jI v21)]) (rest := []) rfl rfl (Nat.le_of_ble_eq_true rfl) dX8_snap_52 (J_pI (fun v39 g41 h => ?_))
      refine J_istore C dX8_snap_55 (by decide) (lv' := [(4, .int (jI v39)), (3, .ref (adE E r34)), (0, .ref (adE E 31)), (1, .int (jI v21)), (2, .int (jI x2_14))]) rfl ?_
      refine J_iload C dX8_snap_57 0 rfl ?_
      refine J_bipush C dX8_snap_59 (by decide) ?_
      refine J_icmp_eq C g41 (rgN (-9) (by decide)) (tgt := 79) dX8_snap_61 (by decide) (fun q60 => ?_) (fun q60 => ?_)
      · replace h := h.1 q60
        exact J_sub [2, 3, 4, 1] rfl (j79 _ _ _ h g2_14 g36 nL14)
      · replace h := h.2 q60
        refine J_iload C dX8_snap_64 0 rfl ?_
        refine J_aload_n C dX8_snap_66 rfl 1 rfl ?_
        refine gf_X6_end C hs g36 wf_X8_101 dX8_snap_67 (fun g55 => ?_)
        refine J_icmp_ge C g41 g55 (tgt := 79) dX8_snap_70 (by decide) (fun q59 => ?_) (fun q59 => ?_)
        · replace h := h.1 q59
          exact J_sub [2, 3, 4, 1] rfl (j79 _ _ _ h g2_14 g36 nL14)
        · replace h := h.2 q59
          refine J_aload_n C dX8_snap_73 rfl 1 rfl ?_
          refine J_iload C dX8_snap_74 0 rfl ?_
          refine pf_X6_first C hs g36 wf_X8_90 g41 dX8_snap_76 ?_
          obtain ⟨s56, f57⟩ : ∃ z : Sg, z = sI sL14 r34 0 v39 := ⟨_, rfl⟩
          replace h := h s56 f57
          refine J_sig f57 ?_
          have n58 : gN s56 = gN s := by rw [f57]; exact nL14
          exact J_sub [2, 3, 4, 1] rfl (j79 _ _ _ h g2_14 g36 n58)
  )
  exact J_sub [2, 1, 0] rfl (h (rgN 0 (by decide)) rfl)
set_option maxHeartbeats 4000000 in
set_option maxRecDepth 100000 in
theorem ct_X8_keepGaps {l : Launch} {E : ET} (hs : eS E = true) {s : Sg} {Q : Sg → Prop} (h : wp_X8_keepGaps s Q) : MetE l E yX8_keepGaps cX8_keepGaps 4 none rm_X8_keepGaps s [.ref (adE E 31)] (qV Q (gN s)) := by
  refine MetJ (by decide +kernel) (Nat.le_of_ble_eq_true rfl) ?_
  intro F hl C hF
  subst hl
  show JJ F E 0 0 s 0 [(0, .ref (adE E 31))] []
  refine J_iconst C dX8_keepGaps_0 ?_
  refine J_istore_n C dX8_keepGaps_1 rfl (by decide) (lv' := [(1, .int (jI 0)), (0, .ref (adE E 31))]) rfl ?_
  replace h := h (fun (x1_2 : Int) (sL2 : Sg) => rgI x1_2 → gN sL2 = gN s → JJ F E 0 0 sL2 2 [(0, .ref (adE E 31)), (1, .int (jI x1_2))] []) (by
    intro x1_2 sL2 h g1_2 nL2
    refine J_iload_n C dX8_keepGaps_2 rfl 1 rfl ?_
    refine J_aload_n C dX8_keepGaps_3 rfl 0 rfl ?_
    refine gf_X8_result C hs wf_X8_23 dX8_keepGaps_4 ?_
    refine gf_X5_track C hs kc34 wf_X8_58 dX8_keepGaps_7 ?_
    refine J_V C (ct_X7_size hs (kd5_track kc34) h) ck_X7_size wm_X8_67 win_X7_size wsel_X7_size (dmC hs (kd5_track kc34) (by decide)) (clE_k E sL2 (kd5_track kc34)) rfl ⟨rfl, rfl⟩ (by decide) (by decide) (As := []) (rest := [.int (jI x1_2)]) rfl rfl (Nat.le_of_ble_eq_true rfl) dX8_keepGaps_10 (J_pI (fun v21 g23 h => ?_))
    refine J_icmp_ge C g1_2 g23 (tgt := 64) dX8_keepGaps_13 (by decide) (fun q41 => ?_) (fun q41 => ?_)
    · replace h := h.1 q41
      exact J_vret C (Nat.zero_le _) (Nat.zero_le _) dX8_keepGaps_64 (by rw [hF]; exact ⟨rfl, h, nL2⟩)
    · replace h := h.2 q41
      refine J_aload_n C dX8_keepGaps_16 rfl 0 rfl ?_
      refine gf_X8_result C hs wf_X8_23 dX8_keepGaps_17 ?_
      refine gf_X5_track C hs kc34 wf_X8_58 dX8_keepGaps_20 ?_
      refine J_iload_n C dX8_keepGaps_23 rfl 1 rfl ?_
      refine J_V C (ct_X7_at hs (kd5_track kc34) g1_2 h) ck_X7_at wm_X8_71 win_X7_at wsel_X7_at (dmC hs (kd5_track kc34) (by decide)) (clE_k E sL2 (kd5_track kc34)) rfl ⟨rfl, rfl⟩ (by decide) (by decide) (As := [.int (jI x1_2)]) (rest := []) rfl rfl (Nat.le_of_ble_eq_true rfl) dX8_keepGaps_24 (J_pR (fun r25 g27 h => ?_))
      refine J_astore_n C dX8_keepGaps_27 rfl (by decide) (lv' := [(2, .ref (adE E r25)), (0, .ref (adE E 31)), (1, .int (jI x1_2))]) rfl ?_
      refine J_aload_n C dX8_keepGaps_28 rfl 1 rfl ?_
      refine gf_X8_result C hs wf_X8_23 dX8_keepGaps_29 ?_
      refine J_iload_n C dX8_keepGaps_32 rfl 2 rfl ?_
      refine J_V C (ct_X5_latestEnd hs kc34 g1_2 h) ck_X5_latestEnd wm_X8_129 win_X5_latestEnd wsel_X5_latestEnd (dmC hs kc34 (by decide)) (clE_k E sL2 kc34) rfl ⟨rfl, rfl⟩ (by decide) (by decide) (As := [.int (jI x1_2)]) (rest := []) rfl rfl (Nat.le_of_ble_eq_true rfl) dX8_keepGaps_33 (J_pI (fun v29 g31 h => ?_))
      refine J_aload_n C dX8_keepGaps_36 rfl 0 rfl ?_
      refine gf_X6_first C hs g27 wf_X8_90 dX8_keepGaps_37 (fun g33 => ?_)
      refine J_iconst C dX8_keepGaps_40 ?_
      refine J_iadd C dX8_keepGaps_41 ?_
      obtain ⟨g34, h⟩ := h
      refine J_max C g31 g34 wm_X8_95 wst_max win_Math wco_max (by decide) (Nat.le_of_ble_eq_true rfl) (by decide) dX8_keepGaps_42 ?_
      obtain ⟨x3_45, e35⟩ : ∃ v : Int, v = (max v29 ((gI sL2 r25 0) + 1)) := ⟨_, rfl⟩
      replace h := h x3_45 e35
      have g3_45 : rgI x3_45 := by rw [e35]; exact (rg_max g31 g34)
      refine J_top e35 ?_
      refine J_istore_n C dX8_keepGaps_45 rfl (by decide) (lv' := [(3, .int (jI x3_45)), (2, .ref (adE E r25)), (0, .ref (adE E 31)), (1, .int (jI x1_2))]) rfl ?_
      refine J_aload_n C dX8_keepGaps_46 rfl 1 rfl ?_
      refine J_aload_n C dX8_keepGaps_47 rfl 1 rfl ?_
      refine gf_X6_end C hs g27 wf_X8_101 dX8_keepGaps_48 (fun g36 => ?_)
      refine J_iload_n C dX8_keepGaps_51 rfl 0 rfl ?_
      refine J_min C g36 g3_45 wm_X8_107 wst_min win_Math wco_min (by decide) (Nat.le_of_ble_eq_true rfl) (by decide) dX8_keepGaps_52 ?_
      refine pf_X6_end C hs g27 wf_X8_101 (rg_min g36 g3_45) dX8_keepGaps_55 ?_
      obtain ⟨s37, f38⟩ : ∃ z : Sg, z = sI sL2 r25 1 (min (gI sL2 r25 1) x3_45) := ⟨_, rfl⟩
      replace h := h s37 f38
      refine J_sig f38 ?_
      have n39 : gN s37 = gN s := by rw [f38]; exact nL2
      refine J_iinc C dX8_keepGaps_58 3 rfl (by decide) (lv' := [(1, .int (jI (x1_2 + 1))), (3, .int (jI x3_45)), (2, .ref (adE E r25)), (0, .ref (adE E 31))]) rfl ?_
      refine J_goto C (tgt := 2) dX8_keepGaps_61 (by decide) ?_
      obtain ⟨g40, h⟩ := h
      exact J_sub [3, 0] rfl (h g40 n39)
  )
  exact J_sub [1, 0] rfl (h (rgN 0 (by decide)) rfl)
set_option maxHeartbeats 4000000 in
set_option maxRecDepth 100000 in
theorem ct_X8_carryOut {l : Launch} {E : ET} (hs : eS E = true) {s : Sg} {r1 : Nat} (k1 : kdO r1 = 5) {x2 : Int} (g2 : rgI x2) {Q : Int → Sg → Prop} (h : wp_X8_carryOut r1 x2 s Q) : MetE l E yX8_carryOut cX8_carryOut 3 (some .boolean) rm_X8_carryOut s [.ref (adE E 31), .ref (adE E r1), .int (jI x2)] (qZ Q (gN s)) := by
  refine MetJ (by decide +kernel) (Nat.le_of_ble_eq_true rfl) ?_
  intro F hl C hF
  subst hl
  show JJ F E 0 0 s 0 [(0, .ref (adE E 31)), (1, .ref (adE E r1)), (2, .int (jI x2))] []
  have j60 : ∀ (x2 : Int) (sj : Sg), wj_X8_carryOut_60   x2 sj Q → rgI x2 → gN sj = gN s → JJ F E 0 0 sj 60 [(0, .ref (adE E 31)), (2, .int (jI x2))] [] := by
    intro x2 sj h g2 nj
    refine J_iload_n C dX8_carryOut_60 rfl 1 rfl ?_
    refine J_bipush C dX8_carryOut_61 (by decide) ?_
    refine J_iand C dX8_carryOut_63 ?_
    refine J_if_eq C (rg_and _ _) (tgt := 71) dX8_carryOut_64 (by decide) (fun q34 => ?_) (fun q34 => ?_)
    · replace h := h.1 q34
      refine J_iconst C dX8_carryOut_71 ?_
      exact J_zret C (Nat.zero_le _) (Nat.zero_le _) (nar_z (Or.inr rfl)) dX8_carryOut_72 (by rw [hF]; exact ⟨_, rfl, (Or.inr rfl), h, nj⟩)
    · replace h := h.2 q34
      refine J_aload_n C dX8_carryOut_67 rfl 0 rfl ?_
      refine J_V C (ct_X8_keepGaps hs h) ck_X8_keepGaps wm_X8_48 win_X8_keepGaps wsel_X8_keepGaps (dmC hs kc31 (by decide)) (clE_k E sj kc31) rfl ⟨rfl, rfl⟩ (by decide) (by decide) (As := []) (rest := []) rfl rfl (Nat.le_of_ble_eq_true rfl) dX8_carryOut_68 (J_kV (fun s30 h n32 => ?_))
      have n33 : gN s30 = gN s := n32.trans (nj)
      refine J_iconst C dX8_carryOut_71 ?_
      exact J_zret C (Nat.zero_le _) (Nat.zero_le _) (nar_z (Or.inr rfl)) dX8_carryOut_72 (by rw [hF]; exact ⟨_, rfl, (Or.inr rfl), h, n33⟩)
  have j49 : ∀ (x2 : Int) (sj : Sg), wj_X8_carryOut_49   x2 sj Q → rgI x2 → gN sj = gN s → JJ F E 0 0 sj 49 [(0, .ref (adE E 31)), (2, .int (jI x2))] [] := by
    intro x2 sj h g2 nj
    refine J_iload_n C dX8_carryOut_49 rfl 1 rfl ?_
    refine J_bipush C dX8_carryOut_50 (by decide) ?_
    refine J_iand C dX8_carryOut_52 ?_
    refine J_if_eq C (rg_and _ _) (tgt := 60) dX8_carryOut_53 (by decide) (fun q40 => ?_) (fun q40 => ?_)
    · replace h := h.1 q40
      exact J_sub [0, 1] rfl (j60 _ _ h g2 nj)
    · replace h := h.2 q40
      refine J_aload_n C dX8_carryOut_56 rfl 0 rfl ?_
      refine J_V C (ct_X8_snap hs h) ck_X8_snap wm_X8_45 win_X8_snap wsel_X8_snap (dmC hs kc31 (by decide)) (clE_k E sj kc31) rfl ⟨rfl, rfl⟩ (by decide) (by decide) (As := []) (rest := []) rfl rfl (Nat.le_of_ble_eq_true rfl) dX8_carryOut_57 (J_kV (fun s36 h n38 => ?_))
      have n39 : gN s36 = gN s := n38.trans (nj)
      exact J_sub [0, 1] rfl (j60 _ _ h g2 n39)
  have j39 : ∀ (x2 : Int) (sj : Sg), wj_X8_carryOut_39   x2 sj Q → rgI x2 → gN sj = gN s → JJ F E 0 0 sj 39 [(0, .ref (adE E 31)), (2, .int (jI x2))] [] := by
    intro x2 sj h g2 nj
    refine J_iload_n C dX8_carryOut_39 rfl 1 rfl ?_
    refine J_iconst C dX8_carryOut_40 ?_
    refine J_iand C dX8_carryOut_41 ?_
    refine J_if_eq C (rg_and _ _) (tgt := 49) dX8_carryOut_42 (by decide) (fun q46 => ?_) (fun q46 => ?_)
    · replace h := h.1 q46
      exact J_sub [0, 1] rfl (j49 _ _ h g2 nj)
    · replace h := h.2 q46
      refine J_aload_n C dX8_carryOut_45 rfl 0 rfl ?_
      refine J_V C (ct_X8_stretch hs h) ck_X8_stretch wm_X8_42 win_X8_stretch wsel_X8_stretch (dmC hs kc31 (by decide)) (clE_k E sj kc31) rfl ⟨rfl, rfl⟩ (by decide) (by decide) (As := []) (rest := []) rfl rfl (Nat.le_of_ble_eq_true rfl) dX8_carryOut_46 (J_kV (fun s42 h n44 => ?_))
      have n45 : gN s42 = gN s := n44.trans (nj)
      exact J_sub [0, 1] rfl (j49 _ _ h g2 n45)
  have j29 : ∀ (x2 : Int) (sj : Sg), wj_X8_carryOut_29   x2 sj Q → rgI x2 → gN sj = gN s → JJ F E 0 0 sj 29 [(0, .ref (adE E 31)), (2, .int (jI x2))] [] := by
    intro x2 sj h g2 nj
    refine J_iload_n C dX8_carryOut_29 rfl 1 rfl ?_
    refine J_iconst C dX8_carryOut_30 ?_
    refine J_iand C dX8_carryOut_31 ?_
    refine J_if_eq C (rg_and _ _) (tgt := 39) dX8_carryOut_32 (by decide) (fun q52 => ?_) (fun q52 => ?_)
    · replace h := h.1 q52
      exact J_sub [0, 1] rfl (j39 _ _ h g2 nj)
    · replace h := h.2 q52
      refine J_aload_n C dX8_carryOut_35 rfl 0 rfl ?_
      refine J_V C (ct_X8_merge hs h) ck_X8_merge wm_X8_39 win_X8_merge wsel_X8_merge (dmC hs kc31 (by decide)) (clE_k E sj kc31) rfl ⟨rfl, rfl⟩ (by decide) (by decide) (As := []) (rest := []) rfl rfl (Nat.le_of_ble_eq_true rfl) dX8_carryOut_36 (J_kV (fun s48 h n50 => ?_))
      have n51 : gN s48 = gN s := n50.trans (nj)
      exact J_sub [0, 1] rfl (j39 _ _ h g2 n51)
  refine J_aload_n C dX8_carryOut_0 rfl 0 rfl ?_
  refine gf_X8_result C hs wf_X8_23 dX8_carryOut_1 ?_
  refine J_aload_n C dX8_carryOut_4 rfl 1 rfl ?_
  refine J_V C (ct_X5_become hs kc34 k1 h) ck_X5_become wm_X8_27 win_X5_become wsel_X5_become (dmC hs kc34 (by decide)) (clE_k E s kc34) rfl ⟨rfl, rfl⟩ (by decide) (by decide) (As := [.ref (adE E r1)]) (rest := []) rfl rfl (Nat.le_of_ble_eq_true rfl) dX8_carryOut_5 (J_kV (fun s22 h n24 => ?_))
  have n25 : gN s22 = gN s := n24
  refine J_aload_n C dX8_carryOut_8 rfl 0 rfl ?_
  refine J_iconst C dX8_carryOut_9 ?_
  refine pf_X8_lost C hs wf_X8_31 (rgN 0 (by decide)) dX8_carryOut_10 ?_
  obtain ⟨s26, f27⟩ : ∃ z : Sg, z = sI s22 31 1 0 := ⟨_, rfl⟩
  replace h := h s26 f27
  refine J_sig f27 ?_
  have n28 : gN s26 = gN s := by rw [f27]; exact n25
  refine J_iload_n C dX8_carryOut_13 rfl 2 rfl ?_
  refine J_iconst C dX8_carryOut_14 ?_
  refine J_iand C dX8_carryOut_15 ?_
  refine J_if_eq C (rg_and _ _) (tgt := 29) dX8_carryOut_16 (by decide) (fun q59 => ?_) (fun q59 => ?_)
  · replace h := h.1 q59
    exact J_sub [0, 2] rfl (j29 _ _ h g2 n28)
  · replace h := h.2 q59
    refine J_aload_n C dX8_carryOut_19 rfl 0 rfl ?_
    refine J_aload_n C dX8_carryOut_20 rfl 1 rfl ?_
    refine J_V C (ct_X8_map hs k1 h) ck_X8_map wm_X8_35 win_X8_map wsel_X8_map (dmC hs kc31 (by decide)) (clE_k E s26 kc31) rfl ⟨rfl, rfl⟩ (by decide) (by decide) (As := [.ref (adE E r1)]) (rest := []) rfl rfl (Nat.le_of_ble_eq_true rfl) dX8_carryOut_21 (J_kZ (fun v53 s54 g55 h n56 => ?_))
    have n57 : gN s54 = gN s := n56.trans (n28)
    refine J_if_ne C (rg_z g55) (tgt := 29) dX8_carryOut_24 (by decide) (fun q58 => ?_) (fun q58 => ?_)
    · replace h := h.2 q58
      exact J_sub [0, 2] rfl (j29 _ _ h g2 n57)
    · replace h := h.1 q58
      refine J_iconst C dX8_carryOut_27 ?_
      exact J_zret C (Nat.zero_le _) (Nat.zero_le _) (nar_z (Or.inl rfl)) dX8_carryOut_28 (by rw [hF]; exact ⟨_, rfl, (Or.inl rfl), h, n57⟩)
set_option maxHeartbeats 4000000 in
set_option maxRecDepth 100000 in
theorem ct_X8_countStretches {l : Launch} {E : ET} (hs : eS E = true) {s : Sg} {r1 : Nat} (k1 : kdO r1 = 14) {r2 : Nat} (k2 : kdO r2 = 6) {Q : Int → Sg → Prop} (h : wp_X8_countStretches r1 r2 s Q) : MetE l E yX8_countStretches cX8_countStretches 3 (some .int) rm_X8_countStretches s [.ref (adE E 31), .ref (adE E r1), .ref (adE E r2)] (qI Q (gN s)) := by
  refine MetJ (by decide +kernel) (Nat.le_of_ble_eq_true rfl) ?_
  intro F hl C hF
  subst hl
  show JJ F E 0 0 s 0 [(0, .ref (adE E 31)), (1, .ref (adE E r1)), (2, .ref (adE E r2))] []
  refine J_aload_n C dX8_countStretches_0 rfl 0 rfl ?_
  refine J_aload_n C dX8_countStretches_1 rfl 1 rfl ?_
  refine J_aload_n C dX8_countStretches_2 rfl 2 rfl ?_
  refine J_V C (ct_X8_findStretches hs k1 k2 h) ck_X8_findStretches wm_X8_51 win_X8_findStretches wsel_X8_findStretches (dmC hs kc31 (by decide)) (clE_k E s kc31) rfl ⟨rfl, rfl⟩ (by decide) (by decide) (As := [.ref (adE E r1), .ref (adE E r2)]) (rest := []) rfl rfl (Nat.le_of_ble_eq_true rfl) dX8_countStretches_3 (J_kV (fun s22 h n24 => ?_))
  have n25 : gN s22 = gN s := n24
  refine J_aload_n C dX8_countStretches_6 rfl 0 rfl ?_
  refine gf_X8_found C hs wf_X8_55 dX8_countStretches_7 (fun g26 => ?_)
  exact J_iret C (Nat.zero_le _) (Nat.zero_le _) dX8_countStretches_10 (by rw [hF]; exact ⟨_, rfl, g26, h, n25⟩)
set_option maxHeartbeats 4000000 in
set_option maxRecDepth 100000 in
theorem ct_X9_isWithin {l : Launch} {E : ET} (hs : eS E = true) {s : Sg} {x0 : Int} (g0 : rgI x0) {x1 : Int} (g1 : rgI x1) {x2 : Int} (g2 : rgI x2) {Q : Int → Prop} (h : wp_X9_isWithin x0 x1 x2 s Q) : MetE l E yX9_isWithin cX9_isWithin 3 (some .boolean) rm_X9_isWithin s [.int (jI x0), .int (jI x1), .int (jI x2)] (qZ (fun r t => Q r ∧ t = s) (gN s)) := by
  refine MetJ (by decide +kernel) (Nat.le_of_ble_eq_true rfl) ?_
  intro F hl C hF
  subst hl
  show JJ F E 0 0 s 0 [(0, .int (jI x0)), (1, .int (jI x1)), (2, .int (jI x2))] []
  refine J_iload_n C dX9_isWithin_0 rfl 0 rfl ?_
  refine J_iload_n C dX9_isWithin_1 rfl 1 rfl ?_
  refine J_icmp_lt C g0 g1 (tgt := 14) dX9_isWithin_2 (by decide) (fun q22 => ?_) (fun q22 => ?_)
  · replace h := h.1 q22
    refine J_iconst C dX9_isWithin_14 ?_
    exact J_zret C (Nat.zero_le _) (Nat.zero_le _) (nar_z (Or.inl rfl)) dX9_isWithin_15 (by rw [hF]; exact ⟨_, rfl, (Or.inl rfl), ⟨h, rfl⟩, rfl⟩)
  · replace h := h.2 q22
    refine J_iload_n C dX9_isWithin_5 rfl 0 rfl ?_
    refine J_iload_n C dX9_isWithin_6 rfl 2 rfl ?_
    refine J_icmp_gt C g0 g2 (tgt := 14) dX9_isWithin_7 (by decide) (fun q21 => ?_) (fun q21 => ?_)
    · replace h := h.1 q21
      refine J_iconst C dX9_isWithin_14 ?_
      exact J_zret C (Nat.zero_le _) (Nat.zero_le _) (nar_z (Or.inl rfl)) dX9_isWithin_15 (by rw [hF]; exact ⟨_, rfl, (Or.inl rfl), ⟨h, rfl⟩, rfl⟩)
    · replace h := h.2 q21
      refine J_iconst C dX9_isWithin_10 ?_
      refine J_goto C (tgt := 15) dX9_isWithin_11 (by decide) ?_
      exact J_zret C (Nat.zero_le _) (Nat.zero_le _) (nar_z (Or.inr rfl)) dX9_isWithin_15 (by rw [hF]; exact ⟨_, rfl, (Or.inr rfl), ⟨h, rfl⟩, rfl⟩)
set_option maxHeartbeats 4000000 in
set_option maxRecDepth 100000 in
theorem ct_X9_piece {l : Launch} {E : ET} (hs : eS E = true) {s : Sg} {x1 : Int} (g1 : rgI x1) {x2 : Int} (g2 : rgI x2) {Q : Int → Sg → Prop} (h : wp_X9_piece x1 x2 s Q) : MetE l E yX9_piece cX9_piece 3 (some .int) rm_X9_piece s [.ref (adE E 0), .int (jI x1), .int (jI x2)] (qI Q (gN s)) := by
  refine MetJ (by decide +kernel) (Nat.le_of_ble_eq_true rfl) ?_
  intro F hl C hF
  subst hl
  show JJ F E 0 0 s 0 [(0, .ref (adE E 0)), (1, .int (jI x1)), (2, .int (jI x2))] []
  refine J_iload_n C dX9_piece_0 rfl 1 rfl ?_
  refine J_iconst C dX9_piece_1 ?_
  refine J_sipush C dX9_piece_2 (by decide) ?_
  refine J_S C (ct_X9_isWithin hs g1 (rgN 0 (by decide)) (rgN 9999 (by decide)) h) ck_X9_isWithin wm_X9_41 wst_X9_isWithin ⟨rfl, rfl⟩ (by decide) (by decide) (As := [.int (jI x1), .int (jI 0), .int (jI 9999)]) (rest := []) rfl rfl (Nat.le_of_ble_eq_true rfl) dX9_piece_5 (J_pZ (fun v21 g23 h => ?_))
  refine J_if_eq C (rg_z g23) (tgt := 22) dX9_piece_8 (by decide) (fun q58 => ?_) (fun q58 => ?_)
  · replace h := h.1 q58
    refine J_iconst C dX9_piece_22 ?_
    exact J_iret C (Nat.zero_le _) (Nat.zero_le _) dX9_piece_23 (by rw [hF]; exact ⟨_, rfl, (rgN (-1) (by decide)), h, rfl⟩)
  · replace h := h.2 q58
    refine J_iload_n C dX9_piece_11 rfl 2 rfl ?_
    refine J_iconst C dX9_piece_12 ?_
    refine J_sipush C dX9_piece_13 (by decide) ?_
    refine J_S C (ct_X9_isWithin hs g2 (rgN 1 (by decide)) (rgN 5000 (by decide)) h) ck_X9_isWithin wm_X9_41 wst_X9_isWithin ⟨rfl, rfl⟩ (by decide) (by decide) (As := [.int (jI x2), .int (jI 1), .int (jI 5000)]) (rest := []) rfl rfl (Nat.le_of_ble_eq_true rfl) dX9_piece_16 (J_pZ (fun v25 g27 h => ?_))
    refine J_if_ne C (rg_z g27) (tgt := 24) dX9_piece_19 (by decide) (fun q57 => ?_) (fun q57 => ?_)
    · replace h := h.2 q57
      refine J_iload_n C dX9_piece_24 rfl 1 rfl ?_
      refine J_iload_n C dX9_piece_25 rfl 2 rfl ?_
      refine J_iadd C dX9_piece_26 ?_
      refine J_sipush C dX9_piece_27 (by decide) ?_
      obtain ⟨g29, h⟩ := h
      refine J_icmp_le C g29 (rgN 10000 (by decide)) (tgt := 35) dX9_piece_30 (by decide) (fun q56 => ?_) (fun q56 => ?_)
      · replace h := h.1 q56
        refine J_aload_n C dX9_piece_35 rfl 0 rfl ?_
        refine gf_X9_now C hs wf_X9_23 dX9_piece_36 ?_
        refine gf_X5_cut C hs kc4 wf_X9_45 dX9_piece_39 ?_
        refine J_V C (ct_X0_size hs (kd5_cut kc4) h) ck_X0_size wm_X9_49 win_X0_size wsel_X0_size (dmC hs (kd5_cut kc4) (by decide)) (clE_k E s (kd5_cut kc4)) rfl ⟨rfl, rfl⟩ (by decide) (by decide) (As := []) (rest := []) rfl rfl (Nat.le_of_ble_eq_true rfl) dX9_piece_42 (J_pI (fun v30 g32 h => ?_))
        refine J_bipush C dX9_piece_45 (by decide) ?_
        refine J_icmp_ge C g32 (rgN 10 (by decide)) (tgt := 68) dX9_piece_47 (by decide) (fun q55 => ?_) (fun q55 => ?_)
        · replace h := h.1 q55
          refine J_bipush C dX9_piece_68 (by decide) ?_
          exact J_iret C (Nat.zero_le _) (Nat.zero_le _) dX9_piece_70 (by rw [hF]; exact ⟨_, rfl, (rgN (-3) (by decide)), h, rfl⟩)
        · replace h := h.2 q55
          refine J_aload_n C dX9_piece_50 rfl 0 rfl ?_
          refine gf_X9_now C hs wf_X9_23 dX9_piece_51 ?_
          refine gf_X5_cut C hs kc4 wf_X9_45 dX9_piece_54 ?_
          refine J_V C (ct_X0_frames hs (kd5_cut kc4) h) ck_X0_frames wm_X9_55 win_X0_frames wsel_X0_frames (dmC hs (kd5_cut kc4) (by decide)) (clE_k E s (kd5_cut kc4)) rfl ⟨rfl, rfl⟩ (by decide) (by decide) (As := []) (rest := []) rfl rfl (Nat.le_of_ble_eq_true rfl) dX9_piece_57 (J_pI (fun v34 g36 h => ?_))
          refine J_iload_n C dX9_piece_60 rfl 2 rfl ?_
          refine J_iadd C dX9_piece_61 ?_
          refine J_sipush C dX9_piece_62 (by decide) ?_
          obtain ⟨g38, h⟩ := h
          refine J_icmp_le C g38 (rgN 9999 (by decide)) (tgt := 71) dX9_piece_65 (by decide) (fun q54 => ?_) (fun q54 => ?_)
          · replace h := h.1 q54
            refine J_aload_n C dX9_piece_71 rfl 0 rfl ?_
            refine gf_X9_history C hs wf_X9_37 dX9_piece_72 ?_
            refine J_aload_n C dX9_piece_75 rfl 0 rfl ?_
            refine gf_X9_now C hs wf_X9_23 dX9_piece_76 ?_
            refine J_V C (ct_X1_record hs kc4 h) ck_X1_record wm_X9_58 win_X1_record wsel_X1_record (dmC hs kc61 (by decide)) (clE_k E s kc61) rfl ⟨rfl, rfl⟩ (by decide) (by decide) (As := [.ref (adE E 4)]) (rest := []) rfl rfl (Nat.le_of_ble_eq_true rfl) dX9_piece_79 (J_kV (fun s40 h n42 => ?_))
            have n43 : gN s40 = gN s := n42
            refine J_aload_n C dX9_piece_82 rfl 0 rfl ?_
            refine gf_X9_now C hs wf_X9_23 dX9_piece_83 ?_
            refine gf_X5_cut C hs kc4 wf_X9_45 dX9_piece_86 ?_
            refine J_iload_n C dX9_piece_89 rfl 1 rfl ?_
            refine J_iload_n C dX9_piece_90 rfl 2 rfl ?_
            refine J_V C (ct_X0_append hs (kd5_cut kc4) g1 g2 h) ck_X0_append wm_X9_62 win_X0_append wsel_X0_append (dmC hs (kd5_cut kc4) (by decide)) (clE_k E s40 (kd5_cut kc4)) rfl ⟨rfl, rfl⟩ (by decide) (by decide) (As := [.int (jI x1), .int (jI x2)]) (rest := []) rfl rfl (Nat.le_of_ble_eq_true rfl) dX9_piece_91 (J_kV (fun s45 h n47 => ?_))
            have n48 : gN s45 = gN s := n47.trans (n43)
            refine J_aload_n C dX9_piece_94 rfl 0 rfl ?_
            refine gf_X9_now C hs wf_X9_23 dX9_piece_95 ?_
            refine gf_X5_cut C hs kc4 wf_X9_45 dX9_piece_98 ?_
            refine J_V C (ct_X0_size hs (kd5_cut kc4) h) ck_X0_size wm_X9_49 win_X0_size wsel_X0_size (dmC hs (kd5_cut kc4) (by decide)) (clE_k E s45 (kd5_cut kc4)) rfl ⟨rfl, rfl⟩ (by decide) (by decide) (As := []) (rest := []) rfl rfl (Nat.le_of_ble_eq_true rfl) dX9_piece_101 (J_pI (fun v49 g51 h => ?_))
            refine J_iconst C dX9_piece_104 ?_
            refine J_isub C dX9_piece_105 ?_
            obtain ⟨g53, h⟩ := h
            exact J_iret C (Nat.zero_le _) (Nat.zero_le _) dX9_piece_106 (by rw [hF]; exact ⟨_, rfl, g53, h, n48⟩)
          · replace h := h.2 q54
            refine J_bipush C dX9_piece_68 (by decide) ?_
            exact J_iret C (Nat.zero_le _) (Nat.zero_le _) dX9_piece_70 (by rw [hF]; exact ⟨_, rfl, (rgN (-3) (by decide)), h, rfl⟩)
      · replace h := h.2 q56
        refine J_iconst C dX9_piece_33 ?_
        exact J_iret C (Nat.zero_le _) (Nat.zero_le _) dX9_piece_34 (by rw [hF]; exact ⟨_, rfl, (rgN (-1) (by decide)), h, rfl⟩)
    · replace h := h.1 q57
      refine J_iconst C dX9_piece_22 ?_
      exact J_iret C (Nat.zero_le _) (Nat.zero_le _) dX9_piece_23 (by rw [hF]; exact ⟨_, rfl, (rgN (-1) (by decide)), h, rfl⟩)
