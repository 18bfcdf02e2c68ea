/-! contracts (printed by wip/whole/gen) -/
set_option maxHeartbeats 4000000 in
set_option maxRecDepth 100000 in
theorem ct_X10_told {l : Launch} {E : ET} (hs : eS E = false) {s : Sg} {x1 : Int} (g1 : rgI x1) {Q : Int → Prop} (h : wp_X10_told x1 s Q) : MetE l E yX10_told cX10_told 2 (some .int) rm_X10_told s [.ref (adE E 279), .int (jI x1)] (qI (fun r t => Q r ∧ t = s) (gN s)) := by
  refine MetJ (by decide +kernel) (Nat.le_of_ble_eq_true rfl) ?_
  intro F hl C hF
  subst hl
  show JJ F E 0 0 s 0 [(0, .ref (adE E 279)), (1, .int (jI x1))] []
  refine J_iload_n C dX10_told_0 rfl 1 rfl ?_
  have q21 : (x1 < 5 ∨ 11 < x1) ∨ x1 = 5 ∨ x1 = 6 ∨ x1 = 7 ∨ x1 = 8 ∨ x1 = 9 ∨ x1 = 10 ∨ x1 = 11 := by omega
  rcases q21 with q21 | q21 | q21 | q21 | q21 | q21 | q21 | q21
  · replace h := h.2.2.2.2.2.2.2 q21
    refine J_tswOut C g1 (tgt := 87) dX10_told_1 q21 (by decide) ?_
    refine J_iload_n C dX10_told_87 rfl 1 rfl ?_
    refine J_iconst C dX10_told_88 ?_
    refine J_iconst C dX10_told_89 ?_
    refine J_S C (ct_X10_in hs g1 (rgN 0 (by decide)) (rgN 4 (by decide)) h) ck_X10_in wm_X10_60 wst_X10_in ⟨rfl, rfl⟩ (by decide) (by decide) (As := [.int (jI x1), .int (jI 0), .int (jI 4)]) (rest := []) rfl rfl (Nat.le_of_ble_eq_true rfl) dX10_told_90 (J_pZ (fun v22 g24 h => ?_))
    refine J_if_eq C (rg_z g24) (tgt := 104) dX10_told_93 (by decide) (fun q30 => ?_) (fun q30 => ?_)
    · replace h := h.1 q30
      refine J_iconst C dX10_told_104 ?_
      exact J_iret C (Nat.zero_le _) (Nat.zero_le _) dX10_told_105 (by rw [hF]; exact ⟨_, rfl, (rgN (-1) (by decide)), ⟨h, rfl⟩, rfl⟩)
    · replace h := h.2 q30
      refine J_aload_n C dX10_told_96 rfl 0 rfl ?_
      refine J_iload_n C dX10_told_97 rfl 1 rfl ?_
      refine J_V C (ct_X10_setting hs g1 h) ck_X10_setting wm_X10_105 win_X10_setting wsel_X10_setting (dmM hs kc279 (by decide)) (clE_k E s kc279) rfl ⟨rfl, rfl⟩ (by decide) (by decide) (As := [.int (jI x1)]) (rest := []) rfl rfl (Nat.le_of_ble_eq_true rfl) dX10_told_98 (J_pI (fun v26 g28 h => ?_))
      refine J_goto C (tgt := 105) dX10_told_101 (by decide) ?_
      exact J_iret C (Nat.zero_le _) (Nat.zero_le _) dX10_told_105 (by rw [hF]; exact ⟨_, rfl, g28, ⟨h, rfl⟩, rfl⟩)
  · replace h := h.1 q21
    refine J_tswIn C q21 (rgN 5 (by decide)) (tgt := 44) (off := 43) dX10_told_1 (by decide) (by decide) rfl (by decide) ?_
    refine J_aload_n C dX10_told_44 rfl 0 rfl ?_
    refine gf_X10_page C hs wf_X10_7 dX10_told_45 ?_
    refine J_iconst C dX10_told_48 ?_
    obtain ⟨b31, b32, h⟩ := h
    refine J_iald C (dmM hs kc280 (by decide)) (n := 12960) (clE_k E s kc280) (by decide) b31 b32 dX10_told_49 (fun g33 => ?_)
    exact J_iret C (Nat.zero_le _) (Nat.zero_le _) dX10_told_50 (by rw [hF]; exact ⟨_, rfl, g33, ⟨h, rfl⟩, rfl⟩)
  · replace h := h.2.1 q21
    refine J_tswIn C q21 (rgN 6 (by decide)) (tgt := 51) (off := 50) dX10_told_1 (by decide) (by decide) rfl (by decide) ?_
    refine J_aload_n C dX10_told_51 rfl 0 rfl ?_
    refine J_V C (ct_X10_newLong hs h) ck_X10_newLong wm_X10_64 win_X10_newLong wsel_X10_newLong (dmM hs kc279 (by decide)) (clE_k E s kc279) rfl ⟨rfl, rfl⟩ (by decide) (by decide) (As := []) (rest := []) rfl rfl (Nat.le_of_ble_eq_true rfl) dX10_told_52 (J_pI (fun v34 g36 h => ?_))
    exact J_iret C (Nat.zero_le _) (Nat.zero_le _) dX10_told_55 (by rw [hF]; exact ⟨_, rfl, g36, ⟨h, rfl⟩, rfl⟩)
  · replace h := h.2.2.1 q21
    refine J_tswIn C q21 (rgN 7 (by decide)) (tgt := 56) (off := 55) dX10_told_1 (by decide) (by decide) rfl (by decide) ?_
    refine J_aload_n C dX10_told_56 rfl 0 rfl ?_
    refine gf_X10_page C hs wf_X10_7 dX10_told_57 ?_
    refine J_bipush C dX10_told_60 (by decide) ?_
    obtain ⟨b38, b39, h⟩ := h
    refine J_iald C (dmM hs kc280 (by decide)) (n := 12960) (clE_k E s kc280) (by decide) b38 b39 dX10_told_62 (fun g40 => ?_)
    exact J_iret C (Nat.zero_le _) (Nat.zero_le _) dX10_told_63 (by rw [hF]; exact ⟨_, rfl, g40, ⟨h, rfl⟩, rfl⟩)
  · replace h := h.2.2.2.1 q21
    refine J_tswIn C q21 (rgN 8 (by decide)) (tgt := 64) (off := 63) dX10_told_1 (by decide) (by decide) rfl (by decide) ?_
    refine J_aload_n C dX10_told_64 rfl 0 rfl ?_
    refine gf_X10_page C hs wf_X10_7 dX10_told_65 ?_
    refine J_bipush C dX10_told_68 (by decide) ?_
    obtain ⟨b41, b42, h⟩ := h
    refine J_iald C (dmM hs kc280 (by decide)) (n := 12960) (clE_k E s kc280) (by decide) b41 b42 dX10_told_70 (fun g43 => ?_)
    exact J_iret C (Nat.zero_le _) (Nat.zero_le _) dX10_told_71 (by rw [hF]; exact ⟨_, rfl, g43, ⟨h, rfl⟩, rfl⟩)
  · replace h := h.2.2.2.2.1 q21
    refine J_tswIn C q21 (rgN 9 (by decide)) (tgt := 72) (off := 71) dX10_told_1 (by decide) (by decide) rfl (by decide) ?_
    refine J_aload_n C dX10_told_72 rfl 0 rfl ?_
    refine J_V C (ct_X10_doubles hs h) ck_X10_doubles wm_X10_211 win_X10_doubles wsel_X10_doubles (dmM hs kc279 (by decide)) (clE_k E s kc279) rfl ⟨rfl, rfl⟩ (by decide) (by decide) (As := []) (rest := []) rfl rfl (Nat.le_of_ble_eq_true rfl) dX10_told_73 (J_pI (fun v44 g46 h => ?_))
    exact J_iret C (Nat.zero_le _) (Nat.zero_le _) dX10_told_76 (by rw [hF]; exact ⟨_, rfl, g46, ⟨h, rfl⟩, rfl⟩)
  · replace h := h.2.2.2.2.2.1 q21
    refine J_tswIn C q21 (rgN 10 (by decide)) (tgt := 77) (off := 76) dX10_told_1 (by decide) (by decide) rfl (by decide) ?_
    refine J_aload_n C dX10_told_77 rfl 0 rfl ?_
    refine gf_X10_typed C hs wf_X10_174 dX10_told_78 (fun g48 => ?_)
    exact J_iret C (Nat.zero_le _) (Nat.zero_le _) dX10_told_81 (by rw [hF]; exact ⟨_, rfl, g48, ⟨h, rfl⟩, rfl⟩)
  · replace h := h.2.2.2.2.2.2.1 q21
    refine J_tswIn C q21 (rgN 11 (by decide)) (tgt := 82) (off := 81) dX10_told_1 (by decide) (by decide) rfl (by decide) ?_
    refine J_aload_n C dX10_told_82 rfl 0 rfl ?_
    refine gf_X10_remembered C hs wf_X10_49 dX10_told_83 (fun g49 => ?_)
    exact J_iret C (Nat.zero_le _) (Nat.zero_le _) dX10_told_86 (by rw [hF]; exact ⟨_, rfl, g49, ⟨h, rfl⟩, rfl⟩)
set_option maxHeartbeats 4000000 in
set_option maxRecDepth 100000 in
theorem ct_X10_undo {l : Launch} {E : ET} (hs : eS E = false) {s : Sg} {Q : Int → Sg → Prop} (h : wp_X10_undo s Q) : MetE l E yX10_undo cX10_undo 2 (some .int) rm_X10_undo s [.ref (adE E 279)] (qI Q (gN s)) := by
  refine MetJ (by decide +kernel) (Nat.le_of_ble_eq_true rfl) ?_
  intro F hl C hF
  subst hl
  show JJ F E 0 0 s 0 [(0, .ref (adE E 279))] []
  refine J_aload_n C dX10_undo_0 rfl 0 rfl ?_
  refine gf_X10_remembered C hs wf_X10_49 dX10_undo_1 (fun g21 => ?_)
  refine J_if_ne C g21 (tgt := 10) dX10_undo_4 (by decide) (fun q39 => ?_) (fun q39 => ?_)
  · replace h := h.2 q39
    refine J_iconst C dX10_undo_10 ?_
    refine J_istore_n C dX10_undo_11 rfl (by decide) (lv' := [(1, .int (jI 0)), (0, .ref (adE E 279))]) rfl ?_
    replace h := h (fun (x1_12 : Int) (sL12 : Sg) => rgI x1_12 → gN sL12 = gN s → JJ F E 0 0 sL12 12 [(0, .ref (adE E 279)), (1, .int (jI x1_12))] []) (by
      intro x1_12 sL12 h g1_12 nL12
      refine J_iload_n C dX10_undo_12 rfl 1 rfl ?_
      refine J_sipush C dX10_undo_13 (by decide) ?_
      refine J_icmp_ge C g1_12 (rgN 1440 (by decide)) (tgt := 46) dX10_undo_16 (by decide) (fun q38 => ?_) (fun q38 => ?_)
      · replace h := h.1 q38
        refine J_aload_n C dX10_undo_46 rfl 0 rfl ?_
        refine J_dup C dX10_undo_47 rfl ?_
        refine gf_X10_remembered C hs wf_X10_49 dX10_undo_48 (fun g22 => ?_)
        refine J_iconst C dX10_undo_51 ?_
        refine J_isub C dX10_undo_52 ?_
        obtain ⟨g25, h⟩ := h
        refine pf_X10_remembered C hs wf_X10_49 g25 dX10_undo_53 ?_
        obtain ⟨s23, f24⟩ : ∃ z : Sg, z = sI sL12 279 1 ((gI sL12 279 1) - 1) := ⟨_, rfl⟩
        replace h := h s23 f24
        refine J_sig f24 ?_
        have n26 : gN s23 = gN s := by rw [f24]; exact nL12
        refine J_aload_n C dX10_undo_56 rfl 0 rfl ?_
        refine gf_X10_remembered C hs wf_X10_49 dX10_undo_57 (fun g27 => ?_)
        exact J_iret C (Nat.zero_le _) (Nat.zero_le _) dX10_undo_60 (by rw [hF]; exact ⟨_, rfl, g27, h, n26⟩)
      · replace h := h.2 q38
        refine J_aload_n C dX10_undo_19 rfl 0 rfl ?_
        refine gf_X10_page C hs wf_X10_7 dX10_undo_20 ?_
        refine J_iload_n C dX10_undo_23 rfl 1 rfl ?_
        refine J_aload_n C dX10_undo_24 rfl 0 rfl ?_
        refine gf_X10_page C hs wf_X10_7 dX10_undo_25 ?_
        refine J_sipush C dX10_undo_28 (by decide) ?_
        refine J_aload_n C dX10_undo_31 rfl 0 rfl ?_
        refine gf_X10_remembered C hs wf_X10_49 dX10_undo_32 (fun g28 => ?_)
        refine J_imul C dX10_undo_35 ?_
        refine J_iload_n C dX10_undo_36 rfl 1 rfl ?_
        refine J_iadd C dX10_undo_37 ?_
        obtain ⟨b29, b30, h⟩ := h
        refine J_iald C (dmM hs kc280 (by decide)) (n := 12960) (clE_k E sL12 kc280) (by decide) b29 b30 dX10_undo_38 (fun g31 => ?_)
        obtain ⟨b32, b33, h⟩ := h
        refine J_iast C (wrM hs kc280 (by decide)) (n := 12960) (fun z => clE_k E z kc280) (by decide) b32 b33 g31 dX10_undo_39 ?_
        obtain ⟨s34, f35⟩ : ∃ z : Sg, z = sI sL12 280 x1_12 (gI sL12 280 ((1440 * (gI sL12 279 1)) + x1_12)) := ⟨_, rfl⟩
        replace h := h s34 f35
        refine J_sig f35 ?_
        have n36 : gN s34 = gN s := by rw [f35]; exact nL12
        refine J_iinc C dX10_undo_40 1 rfl (by decide) (lv' := [(1, .int (jI (x1_12 + 1))), (0, .ref (adE E 279))]) rfl ?_
        refine J_goto C (tgt := 12) dX10_undo_43 (by decide) ?_
        obtain ⟨g37, h⟩ := h
        exact J_sub [1, 0] rfl (h g37 n36)
    )
    exact J_sub [1, 0] rfl (h (rgN 0 (by decide)) rfl)
  · replace h := h.1 q39
    refine J_bipush C dX10_undo_7 (by decide) ?_
    exact J_iret C (Nat.zero_le _) (Nat.zero_le _) dX10_undo_9 (by rw [hF]; exact ⟨_, rfl, (rgN (-2) (by decide)), h, rfl⟩)
set_option maxHeartbeats 4000000 in
set_option maxRecDepth 100000 in
theorem ct_X10_mixedSubtitle {l : Launch} {E : ET} (hs : eS E = false) {s : Sg} {h1 : Int} {x3 : Int} (g3 : rgI x3) {Q : Int → Sg → Prop} (h : wp_X10_mixedSubtitle h1 x3 s Q) : MetE l E yX10_mixedSubtitle cX10_mixedSubtitle 8 (some .long) rm_X10_mixedSubtitle s [.ref (adE E 279), .long (jL h1), .int (jI x3)] (qL Q (gN s)) := by
  refine MetJ (by decide +kernel) (Nat.le_of_ble_eq_true rfl) ?_
  intro F hl C hF
  subst hl
  show JJ F E 0 0 s 0 [(0, .ref (adE E 279)), (1, .long (jL h1)), (3, .int (jI x3))] []
  refine J_lload_n C dX10_mixedSubtitle_0 rfl 1 rfl ?_
  refine J_lstore C dX10_mixedSubtitle_1 (by decide) (lv' := [(4, .long (jL h1)), (0, .ref (adE E 279)), (1, .long (jL h1)), (3, .int (jI x3))]) rfl ?_
  refine J_iconst C dX10_mixedSubtitle_3 ?_
  refine J_istore C dX10_mixedSubtitle_4 (by decide) (lv' := [(6, .int (jI 0)), (4, .long (jL h1)), (0, .ref (adE E 279)), (1, .long (jL h1)), (3, .int (jI x3))]) rfl ?_
  replace h := h (fun (h4_6 : Int) (x6_6 : Int) (sL6 : Sg) => rgI x6_6 → gN sL6 = gN s → JJ F E 0 0 sL6 6 [(0, .ref (adE E 279)), (3, .int (jI x3)), (4, .long (jL h4_6)), (6, .int (jI x6_6))] []) (by
    intro h4_6 x6_6 sL6 h g6_6 nL6
    refine J_iload C dX10_mixedSubtitle_6 3 rfl ?_
    refine J_bipush C dX10_mixedSubtitle_8 (by decide) ?_
    refine J_icmp_gt C g6_6 (rgN 6 (by decide)) (tgt := 36) dX10_mixedSubtitle_10 (by decide) (fun q64 => ?_) (fun q64 => ?_)
    · replace h := h.1 q64
      refine J_ldc2 C dX10_mixedSubtitle_36 wc_X10_214 ?_
      refine J_lload C dX10_mixedSubtitle_39 2 rfl ?_
      refine J_lmul C dX10_mixedSubtitle_41 ?_
      refine J_aload_n C dX10_mixedSubtitle_42 rfl 0 rfl ?_
      refine J_iload_n C dX10_mixedSubtitle_43 rfl 1 rfl ?_
      refine J_V C (ct_X10_stretches hs g3 h) ck_X10_stretches wm_X10_219 win_X10_stretches wsel_X10_stretches (dmM hs kc279 (by decide)) (clE_k E sL6 kc279) rfl ⟨rfl, rfl⟩ (by decide) (by decide) (As := [.int (jI x3)]) (rest := [.long (jL (31 * h4_6))]) rfl rfl (Nat.le_of_ble_eq_true rfl) dX10_mixedSubtitle_44 (J_kI (fun v21 s22 g23 h n24 => ?_))
      have n25 : gN s22 = gN s := n24.trans (nL6)
      refine J_i2l C g23 dX10_mixedSubtitle_47 ?_
      refine J_ladd C dX10_mixedSubtitle_48 ?_
      obtain ⟨h4_49, e26⟩ : ∃ v : Int, v = ((31 * h4_6) + v21) := ⟨_, rfl⟩
      replace h := h h4_49 e26
      refine J_topL e26 ?_
      refine J_lstore C dX10_mixedSubtitle_49 (by decide) (lv' := [(4, .long (jL h4_49)), (0, .ref (adE E 279)), (3, .int (jI x3)), (6, .int (jI x6_6))]) rfl ?_
      refine J_iconst C dX10_mixedSubtitle_51 ?_
      refine J_istore C dX10_mixedSubtitle_52 (by decide) (lv' := [(6, .int (jI 0)), (4, .long (jL h4_49)), (0, .ref (adE E 279)), (3, .int (jI x3))]) rfl ?_
      replace h := h (fun (h4_54 : Int) (x6_54 : Int) => rgI x6_54 → JJ F E 0 0 s22 54 [(0, .ref (adE E 279)), (3, .int (jI x3)), (4, .long (jL h4_54)), (6, .int (jI x6_54))] []) (by
        intro h4_54 x6_54 h g6_54
        refine J_iload C dX10_mixedSubtitle_54 3 rfl ?_
        refine J_aload_n C dX10_mixedSubtitle_56 rfl 0 rfl ?_
        refine gf_X10_page C hs wf_X10_7 dX10_mixedSubtitle_57 ?_
        refine J_aload_n C dX10_mixedSubtitle_60 rfl 0 rfl ?_
        refine J_iload_n C dX10_mixedSubtitle_61 rfl 1 rfl ?_
        refine J_V C (ct_X10_at hs g3 h) ck_X10_at wm_X10_81 win_X10_at wsel_X10_at (dmM hs kc279 (by decide)) (clE_k E s22 kc279) rfl ⟨rfl, rfl⟩ (by decide) (by decide) (As := [.int (jI x3)]) (rest := [.ref (adE E 280), .int (jI x6_54)]) rfl rfl (Nat.le_of_ble_eq_true rfl) dX10_mixedSubtitle_62 (J_pI (fun v27 g29 h => ?_))
        refine J_iconst C dX10_mixedSubtitle_65 ?_
        refine J_iadd C dX10_mixedSubtitle_66 ?_
        obtain ⟨b31, b32, h⟩ := h
        refine J_iald C (dmM hs kc280 (by decide)) (n := 12960) (clE_k E s22 kc280) (by decide) b31 b32 dX10_mixedSubtitle_67 (fun g33 => ?_)
        refine J_icmp_ge C g6_54 g33 (tgt := 160) dX10_mixedSubtitle_68 (by decide) (fun q56 => ?_) (fun q56 => ?_)
        · replace h := h.1 q56
          refine J_lload C dX10_mixedSubtitle_160 2 rfl ?_
          exact J_lret C (Nat.zero_le _) (Nat.zero_le _) dX10_mixedSubtitle_162 (by rw [hF]; exact ⟨_, rfl, h, n25⟩)
        · replace h := h.2 q56
          refine J_iconst C dX10_mixedSubtitle_71 ?_
          refine J_istore C dX10_mixedSubtitle_72 (by decide) (lv' := [(7, .int (jI 0)), (0, .ref (adE E 279)), (3, .int (jI x3)), (4, .long (jL h4_54)), (6, .int (jI x6_54))]) rfl ?_
          replace h := h (fun (h4_74 : Int) (x7_74 : Int) => rgI x7_74 → JJ F E 0 0 s22 74 [(0, .ref (adE E 279)), (3, .int (jI x3)), (4, .long (jL h4_74)), (6, .int (jI x6_54)), (7, .int (jI x7_74))] []) (by
            intro h4_74 x7_74 h g7_74
            refine J_iload C dX10_mixedSubtitle_74 4 rfl ?_
            refine J_iconst C dX10_mixedSubtitle_76 ?_
            refine J_icmp_gt C g7_74 (rgN 3 (by decide)) (tgt := 108) dX10_mixedSubtitle_77 (by decide) (fun q55 => ?_) (fun q55 => ?_)
            · replace h := h.1 q55
              refine J_iconst C dX10_mixedSubtitle_108 ?_
              refine J_istore C dX10_mixedSubtitle_109 (by decide) (lv' := [(7, .int (jI 0)), (0, .ref (adE E 279)), (3, .int (jI x3)), (4, .long (jL h4_74)), (6, .int (jI x6_54))]) rfl ?_
              replace h := h (fun (h4_111 : Int) (x7_111 : Int) => rgI x7_111 → JJ F E 0 0 s22 111 [(0, .ref (adE E 279)), (3, .int (jI x3)), (4, .long (jL h4_111)), (6, .int (jI x6_54)), (7, .int (jI x7_111))] []) (by
                intro h4_111 x7_111 h g7_111
                refine J_iload C dX10_mixedSubtitle_111 4 rfl ?_
                refine J_aload_n C dX10_mixedSubtitle_113 rfl 0 rfl ?_
                refine J_iconst C dX10_mixedSubtitle_114 ?_
                refine J_iload_n C dX10_mixedSubtitle_115 rfl 1 rfl ?_
                refine J_imul C dX10_mixedSubtitle_116 ?_
                refine J_iload C dX10_mixedSubtitle_117 3 rfl ?_
                refine J_iadd C dX10_mixedSubtitle_119 ?_
                obtain ⟨g34, h⟩ := h
                refine J_V C (ct_X10_longOf hs g34 h) ck_X10_longOf wm_X10_94 win_X10_longOf wsel_X10_longOf (dmM hs kc279 (by decide)) (clE_k E s22 kc279) rfl ⟨rfl, rfl⟩ (by decide) (by decide) (As := [.int (jI ((2 * x3) + x6_54))]) (rest := [.int (jI x7_111)]) rfl rfl (Nat.le_of_ble_eq_true rfl) dX10_mixedSubtitle_120 (J_pI (fun v35 g37 h => ?_))
                refine J_icmp_ge C g7_111 g37 (tgt := 154) dX10_mixedSubtitle_123 (by decide) (fun q47 => ?_) (fun q47 => ?_)
                · replace h := h.1 q47
                  refine J_iinc C dX10_mixedSubtitle_154 3 rfl (by decide) (lv' := [(6, .int (jI (x6_54 + 1))), (0, .ref (adE E 279)), (3, .int (jI x3)), (4, .long (jL h4_111)), (7, .int (jI x7_111))]) rfl ?_
                  refine J_goto C (tgt := 54) dX10_mixedSubtitle_157 (by decide) ?_
                  obtain ⟨g39, h⟩ := h
                  exact J_sub [1, 2, 3, 0] rfl (h g39)
                · replace h := h.2 q47
                  refine J_ldc2 C dX10_mixedSubtitle_126 wc_X10_214 ?_
                  refine J_lload C dX10_mixedSubtitle_129 2 rfl ?_
                  refine J_lmul C dX10_mixedSubtitle_131 ?_
                  refine J_aload_n C dX10_mixedSubtitle_132 rfl 0 rfl ?_
                  refine J_iconst C dX10_mixedSubtitle_133 ?_
                  refine J_iload_n C dX10_mixedSubtitle_134 rfl 1 rfl ?_
                  refine J_imul C dX10_mixedSubtitle_135 ?_
                  refine J_iload C dX10_mixedSubtitle_136 3 rfl ?_
                  refine J_iadd C dX10_mixedSubtitle_138 ?_
                  refine J_iload C dX10_mixedSubtitle_139 4 rfl ?_
                  obtain ⟨g40, h⟩ := h
                  refine J_V C (ct_X10_byteOf hs g40 g7_111 h) ck_X10_byteOf wm_X10_97 win_X10_byteOf wsel_X10_byteOf (dmM hs kc279 (by decide)) (clE_k E s22 kc279) rfl ⟨rfl, rfl⟩ (by decide) (by decide) (As := [.int (jI ((2 * x3) + x6_54)), .int (jI x7_111)]) (rest := [.long (jL (31 * h4_111))]) rfl rfl (Nat.le_of_ble_eq_true rfl) dX10_mixedSubtitle_141 (J_pI (fun v41 g43 h => ?_))
                  refine J_i2l C g43 dX10_mixedSubtitle_144 ?_
                  refine J_ladd C dX10_mixedSubtitle_145 ?_
                  obtain ⟨h4_146, e45⟩ : ∃ v : Int, v = ((31 * h4_111) + v41) := ⟨_, rfl⟩
                  replace h := h h4_146 e45
                  refine J_topL e45 ?_
                  refine J_lstore C dX10_mixedSubtitle_146 (by decide) (lv' := [(4, .long (jL h4_146)), (0, .ref (adE E 279)), (3, .int (jI x3)), (6, .int (jI x6_54)), (7, .int (jI x7_111))]) rfl ?_
                  refine J_iinc C dX10_mixedSubtitle_148 4 rfl (by decide) (lv' := [(7, .int (jI (x7_111 + 1))), (4, .long (jL h4_146)), (0, .ref (adE E 279)), (3, .int (jI x3)), (6, .int (jI x6_54))]) rfl ?_
                  refine J_goto C (tgt := 111) dX10_mixedSubtitle_151 (by decide) ?_
                  obtain ⟨g46, h⟩ := h
                  exact J_sub [2, 3, 1, 4, 0] rfl (h g46)
              )
              exact J_sub [1, 2, 3, 4, 0] rfl (h (rgN 0 (by decide)))
            · replace h := h.2 q55
              refine J_ldc2 C dX10_mixedSubtitle_80 wc_X10_214 ?_
              refine J_lload C dX10_mixedSubtitle_83 2 rfl ?_
              refine J_lmul C dX10_mixedSubtitle_85 ?_
              refine J_aload_n C dX10_mixedSubtitle_86 rfl 0 rfl ?_
              refine J_iconst C dX10_mixedSubtitle_87 ?_
              refine J_iload_n C dX10_mixedSubtitle_88 rfl 1 rfl ?_
              refine J_imul C dX10_mixedSubtitle_89 ?_
              refine J_iload C dX10_mixedSubtitle_90 3 rfl ?_
              refine J_iadd C dX10_mixedSubtitle_92 ?_
              refine J_iload C dX10_mixedSubtitle_93 4 rfl ?_
              obtain ⟨g48, h⟩ := h
              refine J_V C (ct_X10_partOf hs g48 g7_74 h) ck_X10_partOf wm_X10_199 win_X10_partOf wsel_X10_partOf (dmM hs kc279 (by decide)) (clE_k E s22 kc279) rfl ⟨rfl, rfl⟩ (by decide) (by decide) (As := [.int (jI ((2 * x3) + x6_54)), .int (jI x7_74)]) (rest := [.long (jL (31 * h4_74))]) rfl rfl (Nat.le_of_ble_eq_true rfl) dX10_mixedSubtitle_95 (J_pI (fun v49 g51 h => ?_))
              refine J_i2l C g51 dX10_mixedSubtitle_98 ?_
              refine J_ladd C dX10_mixedSubtitle_99 ?_
              obtain ⟨h4_100, e53⟩ : ∃ v : Int, v = ((31 * h4_74) + v49) := ⟨_, rfl⟩
              replace h := h h4_100 e53
              refine J_topL e53 ?_
              refine J_lstore C dX10_mixedSubtitle_100 (by decide) (lv' := [(4, .long (jL h4_100)), (0, .ref (adE E 279)), (3, .int (jI x3)), (6, .int (jI x6_54)), (7, .int (jI x7_74))]) rfl ?_
              refine J_iinc C dX10_mixedSubtitle_102 4 rfl (by decide) (lv' := [(7, .int (jI (x7_74 + 1))), (4, .long (jL h4_100)), (0, .ref (adE E 279)), (3, .int (jI x3)), (6, .int (jI x6_54))]) rfl ?_
              refine J_goto C (tgt := 74) dX10_mixedSubtitle_105 (by decide) ?_
              obtain ⟨g54, h⟩ := h
              exact J_sub [2, 3, 1, 4, 0] rfl (h g54)
          )
          exact J_sub [1, 2, 3, 4, 0] rfl (h (rgN 0 (by decide)))
      )
      exact J_sub [2, 3, 1, 0] rfl (h (rgN 0 (by decide)))
    · replace h := h.2 q64
      refine J_ldc2 C dX10_mixedSubtitle_13 wc_X10_214 ?_
      refine J_lload C dX10_mixedSubtitle_16 2 rfl ?_
      refine J_lmul C dX10_mixedSubtitle_18 ?_
      refine J_aload_n C dX10_mixedSubtitle_19 rfl 0 rfl ?_
      refine J_iload_n C dX10_mixedSubtitle_20 rfl 1 rfl ?_
      refine J_iload C dX10_mixedSubtitle_21 3 rfl ?_
      refine J_V C (ct_X10_subtitle hs g3 g6_6 h) ck_X10_subtitle wm_X10_216 win_X10_subtitle wsel_X10_subtitle (dmM hs kc279 (by decide)) (clE_k E sL6 kc279) rfl ⟨rfl, rfl⟩ (by decide) (by decide) (As := [.int (jI x3), .int (jI x6_6)]) (rest := [.long (jL (31 * h4_6))]) rfl rfl (Nat.le_of_ble_eq_true rfl) dX10_mixedSubtitle_23 (J_kI (fun v57 s58 g59 h n60 => ?_))
      have n61 : gN s58 = gN s := n60.trans (nL6)
      refine J_i2l C g59 dX10_mixedSubtitle_26 ?_
      refine J_ladd C dX10_mixedSubtitle_27 ?_
      obtain ⟨h4_28, e62⟩ : ∃ v : Int, v = ((31 * h4_6) + v57) := ⟨_, rfl⟩
      replace h := h h4_28 e62
      refine J_topL e62 ?_
      refine J_lstore C dX10_mixedSubtitle_28 (by decide) (lv' := [(4, .long (jL h4_28)), (0, .ref (adE E 279)), (3, .int (jI x3)), (6, .int (jI x6_6))]) rfl ?_
      refine J_iinc C dX10_mixedSubtitle_30 3 rfl (by decide) (lv' := [(6, .int (jI (x6_6 + 1))), (4, .long (jL h4_28)), (0, .ref (adE E 279)), (3, .int (jI x3))]) rfl ?_
      refine J_goto C (tgt := 6) dX10_mixedSubtitle_33 (by decide) ?_
      obtain ⟨g63, h⟩ := h
      exact J_sub [2, 3, 1, 0] rfl (h g63 n61)
  )
  exact J_sub [2, 4, 1, 0] rfl (h (rgN 0 (by decide)) rfl)
set_option maxHeartbeats 4000000 in
set_option maxRecDepth 100000 in
theorem ct_X10_digest {l : Launch} {E : ET} (hs : eS E = false) {s : Sg} {Q : Int → Sg → Prop} (h : wp_X10_digest s Q) : MetE l E yX10_digest cX10_digest 5 (some .long) rm_X10_digest s [.ref (adE E 279)] (qL Q (gN s)) := by
  refine MetJ (by decide +kernel) (Nat.le_of_ble_eq_true rfl) ?_
  intro F hl C hF
  subst hl
  show JJ F E 0 0 s 0 [(0, .ref (adE E 279))] []
  refine J_ldc2 C dX10_digest_0 wc_X10_222 ?_
  refine J_lstore_n C dX10_digest_3 rfl (by decide) (lv' := [(1, .long (jL 18771)), (0, .ref (adE E 279))]) rfl ?_
  refine J_iconst C dX10_digest_4 ?_
  refine J_istore_n C dX10_digest_5 rfl (by decide) (lv' := [(3, .int (jI 0)), (1, .long (jL 18771)), (0, .ref (adE E 279))]) rfl ?_
  replace h := h (fun (h1_6 : Int) (x3_6 : Int) => rgI x3_6 → JJ F E 0 0 s 6 [(0, .ref (adE E 279)), (1, .long (jL h1_6)), (3, .int (jI x3_6))] []) (by
    intro h1_6 x3_6 h g3_6
    refine J_iload_n C dX10_digest_6 rfl 2 rfl ?_
    refine J_bipush C dX10_digest_7 (by decide) ?_
    refine J_icmp_gt C g3_6 (rgN 11 (by decide)) (tgt := 31) dX10_digest_9 (by decide) (fun q80 => ?_) (fun q80 => ?_)
    · replace h := h.1 q80
      refine J_iconst C dX10_digest_31 ?_
      refine J_istore_n C dX10_digest_32 rfl (by decide) (lv' := [(3, .int (jI 0)), (0, .ref (adE E 279)), (1, .long (jL h1_6))]) rfl ?_
      replace h := h (fun (h1_33 : Int) (x3_33 : Int) => rgI x3_33 → JJ F E 0 0 s 33 [(0, .ref (adE E 279)), (1, .long (jL h1_33)), (3, .int (jI x3_33))] []) (by
        intro h1_33 x3_33 h g3_33
        refine J_iload_n C dX10_digest_33 rfl 2 rfl ?_
        refine J_aload_n C dX10_digest_34 rfl 0 rfl ?_
        refine gf_X10_page C hs wf_X10_7 dX10_digest_35 ?_
        refine J_iconst C dX10_digest_38 ?_
        obtain ⟨b21, b22, h⟩ := h
        refine J_iald C (dmM hs kc280 (by decide)) (n := 12960) (clE_k E s kc280) (by decide) b21 b22 dX10_digest_39 (fun g23 => ?_)
        refine J_icmp_ge C g3_33 g23 (tgt := 79) dX10_digest_40 (by decide) (fun q73 => ?_) (fun q73 => ?_)
        · replace h := h.1 q73
          refine J_iconst C dX10_digest_79 ?_
          refine J_istore_n C dX10_digest_80 rfl (by decide) (lv' := [(3, .int (jI 0)), (0, .ref (adE E 279)), (1, .long (jL h1_33))]) rfl ?_
          replace h := h (fun (h1_81 : Int) (x3_81 : Int) => rgI x3_81 → JJ F E 0 0 s 81 [(0, .ref (adE E 279)), (1, .long (jL h1_81)), (3, .int (jI x3_81))] []) (by
            intro h1_81 x3_81 h g3_81
            refine J_iload_n C dX10_digest_81 rfl 2 rfl ?_
            refine J_aload_n C dX10_digest_82 rfl 0 rfl ?_
            refine gf_X10_page C hs wf_X10_7 dX10_digest_83 ?_
            refine J_bipush C dX10_digest_86 (by decide) ?_
            obtain ⟨b24, b25, h⟩ := h
            refine J_iald C (dmM hs kc280 (by decide)) (n := 12960) (clE_k E s kc280) (by decide) b24 b25 dX10_digest_88 (fun g26 => ?_)
            refine J_icmp_ge C g3_81 g26 (tgt := 115) dX10_digest_89 (by decide) (fun q64 => ?_) (fun q64 => ?_)
            · replace h := h.1 q64
              refine J_iconst C dX10_digest_115 ?_
              refine J_istore_n C dX10_digest_116 rfl (by decide) (lv' := [(3, .int (jI 0)), (0, .ref (adE E 279)), (1, .long (jL h1_81))]) rfl ?_
              replace h := h (fun (h1_117 : Int) (x3_117 : Int) (sL117 : Sg) => rgI x3_117 → gN sL117 = gN s → JJ F E 0 0 sL117 117 [(0, .ref (adE E 279)), (1, .long (jL h1_117)), (3, .int (jI x3_117))] []) (by
                intro h1_117 x3_117 sL117 h g3_117 nL117
                refine J_iload_n C dX10_digest_117 rfl 2 rfl ?_
                refine J_aload_n C dX10_digest_118 rfl 0 rfl ?_
                refine gf_X10_page C hs wf_X10_7 dX10_digest_119 ?_
                refine J_bipush C dX10_digest_122 (by decide) ?_
                obtain ⟨b27, b28, h⟩ := h
                refine J_iald C (dmM hs kc280 (by decide)) (n := 12960) (clE_k E sL117 kc280) (by decide) b27 b28 dX10_digest_124 (fun g29 => ?_)
                refine J_icmp_ge C g3_117 g29 (tgt := 141) dX10_digest_125 (by decide) (fun q58 => ?_) (fun q58 => ?_)
                · replace h := h.1 q58
                  refine J_ldc2 C dX10_digest_141 wc_X10_214 ?_
                  refine J_lload_n C dX10_digest_144 rfl 1 rfl ?_
                  refine J_lmul C dX10_digest_145 ?_
                  refine J_aload_n C dX10_digest_146 rfl 0 rfl ?_
                  refine J_iconst C dX10_digest_147 ?_
                  refine J_V C (ct_X10_faults hs (rgN 0 (by decide)) h) ck_X10_faults wm_X10_234 win_X10_faults wsel_X10_faults (dmM hs kc279 (by decide)) (clE_k E sL117 kc279) rfl ⟨rfl, rfl⟩ (by decide) (by decide) (As := [.int (jI 0)]) (rest := [.long (jL (31 * h1_117))]) rfl rfl (Nat.le_of_ble_eq_true rfl) dX10_digest_148 (J_kI (fun v30 s31 g32 h n33 => ?_))
                  have n34 : gN s31 = gN s := n33.trans (nL117)
                  refine J_i2l C g32 dX10_digest_151 ?_
                  refine J_ladd C dX10_digest_152 ?_
                  obtain ⟨h1_153, e35⟩ : ∃ v : Int, v = ((31 * h1_117) + v30) := ⟨_, rfl⟩
                  replace h := h h1_153 e35
                  refine J_topL e35 ?_
                  refine J_lstore_n C dX10_digest_153 rfl (by decide) (lv' := [(1, .long (jL h1_153)), (0, .ref (adE E 279)), (3, .int (jI x3_117))]) rfl ?_
                  refine J_iconst C dX10_digest_154 ?_
                  refine J_istore_n C dX10_digest_155 rfl (by decide) (lv' := [(3, .int (jI 1)), (1, .long (jL h1_153)), (0, .ref (adE E 279))]) rfl ?_
                  replace h := h (fun (h1_156 : Int) (x3_156 : Int) (sL156 : Sg) => rgI x3_156 → gN sL156 = gN s → JJ F E 0 0 sL156 156 [(0, .ref (adE E 279)), (1, .long (jL h1_156)), (3, .int (jI x3_156))] []) (by
                    intro h1_156 x3_156 sL156 h g3_156 nL156
                    refine J_iload_n C dX10_digest_156 rfl 2 rfl ?_
                    refine J_bipush C dX10_digest_157 (by decide) ?_
                    refine J_icmp_gt C g3_156 (rgN 32 (by decide)) (tgt := 182) dX10_digest_159 (by decide) (fun q51 => ?_) (fun q51 => ?_)
                    · replace h := h.1 q51
                      refine J_iconst C dX10_digest_182 ?_
                      refine J_istore_n C dX10_digest_183 rfl (by decide) (lv' := [(3, .int (jI 0)), (0, .ref (adE E 279)), (1, .long (jL h1_156))]) rfl ?_
                      replace h := h (fun (h1_184 : Int) (x3_184 : Int) (sL184 : Sg) => rgI x3_184 → gN sL184 = gN s → JJ F E 0 0 sL184 184 [(0, .ref (adE E 279)), (1, .long (jL h1_184)), (3, .int (jI x3_184))] []) (by
                        intro h1_184 x3_184 sL184 h g3_184 nL184
                        refine J_iload_n C dX10_digest_184 rfl 2 rfl ?_
                        refine J_iconst C dX10_digest_185 ?_
                        refine J_icmp_gt C g3_184 (rgN 4 (by decide)) (tgt := 210) dX10_digest_186 (by decide) (fun q43 => ?_) (fun q43 => ?_)
                        · replace h := h.1 q43
                          refine J_lload_n C dX10_digest_210 rfl 1 rfl ?_
                          exact J_lret C (Nat.zero_le _) (Nat.zero_le _) dX10_digest_211 (by rw [hF]; exact ⟨_, rfl, h, nL184⟩)
                        · replace h := h.2 q43
                          refine J_ldc2 C dX10_digest_189 wc_X10_214 ?_
                          refine J_lload_n C dX10_digest_192 rfl 1 rfl ?_
                          refine J_lmul C dX10_digest_193 ?_
                          refine J_aload_n C dX10_digest_194 rfl 0 rfl ?_
                          refine J_bipush C dX10_digest_195 (by decide) ?_
                          refine J_iload_n C dX10_digest_197 rfl 2 rfl ?_
                          refine J_V C (ct_X10_ifConform hs (rgN 31 (by decide)) g3_184 h) ck_X10_ifConform wm_X10_237 win_X10_ifConform wsel_X10_ifConform (dmM hs kc279 (by decide)) (clE_k E sL184 kc279) rfl ⟨rfl, rfl⟩ (by decide) (by decide) (As := [.int (jI 31), .int (jI x3_184)]) (rest := [.long (jL (31 * h1_184))]) rfl rfl (Nat.le_of_ble_eq_true rfl) dX10_digest_198 (J_kI (fun v36 s37 g38 h n39 => ?_))
                          have n40 : gN s37 = gN s := n39.trans (nL184)
                          refine J_i2l C g38 dX10_digest_201 ?_
                          refine J_ladd C dX10_digest_202 ?_
                          obtain ⟨h1_203, e41⟩ : ∃ v : Int, v = ((31 * h1_184) + v36) := ⟨_, rfl⟩
                          replace h := h h1_203 e41
                          refine J_topL e41 ?_
                          refine J_lstore_n C dX10_digest_203 rfl (by decide) (lv' := [(1, .long (jL h1_203)), (0, .ref (adE E 279)), (3, .int (jI x3_184))]) rfl ?_
                          refine J_iinc C dX10_digest_204 2 rfl (by decide) (lv' := [(3, .int (jI (x3_184 + 1))), (1, .long (jL h1_203)), (0, .ref (adE E 279))]) rfl ?_
                          refine J_goto C (tgt := 184) dX10_digest_207 (by decide) ?_
                          obtain ⟨g42, h⟩ := h
                          exact J_sub [2, 1, 0] rfl (h g42 n40)
                      )
                      exact J_sub [1, 2, 0] rfl (h (rgN 0 (by decide)) nL156)
                    · replace h := h.2 q51
                      refine J_ldc2 C dX10_digest_162 wc_X10_214 ?_
                      refine J_lload_n C dX10_digest_165 rfl 1 rfl ?_
                      refine J_lmul C dX10_digest_166 ?_
                      refine J_aload_n C dX10_digest_167 rfl 0 rfl ?_
                      refine J_iload_n C dX10_digest_168 rfl 2 rfl ?_
                      refine J_V C (ct_X10_faults hs g3_156 h) ck_X10_faults wm_X10_234 win_X10_faults wsel_X10_faults (dmM hs kc279 (by decide)) (clE_k E sL156 kc279) rfl ⟨rfl, rfl⟩ (by decide) (by decide) (As := [.int (jI x3_156)]) (rest := [.long (jL (31 * h1_156))]) rfl rfl (Nat.le_of_ble_eq_true rfl) dX10_digest_169 (J_kI (fun v44 s45 g46 h n47 => ?_))
                      have n48 : gN s45 = gN s := n47.trans (nL156)
                      refine J_i2l C g46 dX10_digest_172 ?_
                      refine J_ladd C dX10_digest_173 ?_
                      obtain ⟨h1_174, e49⟩ : ∃ v : Int, v = ((31 * h1_156) + v44) := ⟨_, rfl⟩
                      replace h := h h1_174 e49
                      refine J_topL e49 ?_
                      refine J_lstore_n C dX10_digest_174 rfl (by decide) (lv' := [(1, .long (jL h1_174)), (0, .ref (adE E 279)), (3, .int (jI x3_156))]) rfl ?_
                      refine J_iload_n C dX10_digest_175 rfl 2 rfl ?_
                      refine J_iconst C dX10_digest_176 ?_
                      refine J_imul C dX10_digest_177 ?_
                      obtain ⟨x3_178, e50⟩ : ∃ v : Int, v = (x3_156 * 2) := ⟨_, rfl⟩
                      obtain ⟨g3_178, h⟩ := h x3_178 e50
                      refine J_top e50 ?_
                      refine J_istore_n C dX10_digest_178 rfl (by decide) (lv' := [(3, .int (jI x3_178)), (1, .long (jL h1_174)), (0, .ref (adE E 279))]) rfl ?_
                      refine J_goto C (tgt := 156) dX10_digest_179 (by decide) ?_
                      exact J_sub [2, 1, 0] rfl (h g3_178 n48)
                  )
                  exact J_sub [2, 1, 0] rfl (h (rgN 1 (by decide)) n34)
                · replace h := h.2 q58
                  refine J_aload_n C dX10_digest_128 rfl 0 rfl ?_
                  refine J_lload_n C dX10_digest_129 rfl 1 rfl ?_
                  refine J_iload_n C dX10_digest_130 rfl 2 rfl ?_
                  refine J_V C (ct_X10_mixedSubtitle hs g3_117 h) ck_X10_mixedSubtitle wm_X10_230 win_X10_mixedSubtitle wsel_X10_mixedSubtitle (dmM hs kc279 (by decide)) (clE_k E sL117 kc279) rfl ⟨rfl, rfl⟩ (by decide) (by decide) (As := [.long (jL h1_117), .int (jI x3_117)]) (rest := []) rfl rfl (Nat.le_of_ble_eq_true rfl) dX10_digest_131 (J_kL (fun v52 s53 h n55 => ?_))
                  have n56 : gN s53 = gN s := n55.trans (nL117)
                  refine J_lstore_n C dX10_digest_134 rfl (by decide) (lv' := [(1, .long (jL v52)), (0, .ref (adE E 279)), (3, .int (jI x3_117))]) rfl ?_
                  refine J_iinc C dX10_digest_135 2 rfl (by decide) (lv' := [(3, .int (jI (x3_117 + 1))), (1, .long (jL v52)), (0, .ref (adE E 279))]) rfl ?_
                  refine J_goto C (tgt := 117) dX10_digest_138 (by decide) ?_
                  obtain ⟨g57, h⟩ := h
                  exact J_sub [2, 1, 0] rfl (h g57 n56)
              )
              exact J_sub [1, 2, 0] rfl (h (rgN 0 (by decide)) rfl)
            · replace h := h.2 q64
              refine J_ldc2 C dX10_digest_92 wc_X10_214 ?_
              refine J_lload_n C dX10_digest_95 rfl 1 rfl ?_
              refine J_lmul C dX10_digest_96 ?_
              refine J_aload_n C dX10_digest_97 rfl 0 rfl ?_
              refine gf_X10_page C hs wf_X10_7 dX10_digest_98 ?_
              refine J_bipush C dX10_digest_101 (by decide) ?_
              refine J_iload_n C dX10_digest_103 rfl 2 rfl ?_
              refine J_iadd C dX10_digest_104 ?_
              obtain ⟨b59, b60, h⟩ := h
              refine J_iald C (dmM hs kc280 (by decide)) (n := 12960) (clE_k E s kc280) (by decide) b59 b60 dX10_digest_105 (fun g61 => ?_)
              refine J_i2l C g61 dX10_digest_106 ?_
              refine J_ladd C dX10_digest_107 ?_
              obtain ⟨h1_108, e62⟩ : ∃ v : Int, v = ((31 * h1_81) + (gI s 280 (22 + x3_81))) := ⟨_, rfl⟩
              replace h := h h1_108 e62
              refine J_topL e62 ?_
              refine J_lstore_n C dX10_digest_108 rfl (by decide) (lv' := [(1, .long (jL h1_108)), (0, .ref (adE E 279)), (3, .int (jI x3_81))]) rfl ?_
              refine J_iinc C dX10_digest_109 2 rfl (by decide) (lv' := [(3, .int (jI (x3_81 + 1))), (1, .long (jL h1_108)), (0, .ref (adE E 279))]) rfl ?_
              refine J_goto C (tgt := 81) dX10_digest_112 (by decide) ?_
              obtain ⟨g63, h⟩ := h
              exact J_sub [2, 1, 0] rfl (h g63)
          )
          exact J_sub [1, 2, 0] rfl (h (rgN 0 (by decide)))
        · replace h := h.2 q73
          refine J_iconst C dX10_digest_43 ?_
          refine J_istore C dX10_digest_44 (by decide) (lv' := [(4, .int (jI 0)), (0, .ref (adE E 279)), (1, .long (jL h1_33)), (3, .int (jI x3_33))]) rfl ?_
          replace h := h (fun (h1_46 : Int) (x4_46 : Int) => rgI x4_46 → JJ F E 0 0 s 46 [(0, .ref (adE E 279)), (1, .long (jL h1_46)), (3, .int (jI x3_33)), (4, .int (jI x4_46))] []) (by
            intro h1_46 x4_46 h g4_46
            refine J_iload C dX10_digest_46 3 rfl ?_
            refine J_iconst C dX10_digest_48 ?_
            refine J_icmp_gt C g4_46 (rgN 2 (by decide)) (tgt := 73) dX10_digest_49 (by decide) (fun q72 => ?_) (fun q72 => ?_)
            · replace h := h.1 q72
              refine J_iinc C dX10_digest_73 2 rfl (by decide) (lv' := [(3, .int (jI (x3_33 + 1))), (0, .ref (adE E 279)), (1, .long (jL h1_46)), (4, .int (jI x4_46))]) rfl ?_
              refine J_goto C (tgt := 33) dX10_digest_76 (by decide) ?_
              obtain ⟨g65, h⟩ := h
              exact J_sub [1, 2, 0] rfl (h g65)
            · replace h := h.2 q72
              refine J_ldc2 C dX10_digest_52 wc_X10_214 ?_
              refine J_lload_n C dX10_digest_55 rfl 1 rfl ?_
              refine J_lmul C dX10_digest_56 ?_
              refine J_aload_n C dX10_digest_57 rfl 0 rfl ?_
              refine J_iload_n C dX10_digest_58 rfl 2 rfl ?_
              refine J_iload C dX10_digest_59 3 rfl ?_
              refine J_V C (ct_X10_pieceAt hs g3_33 g4_46 h) ck_X10_pieceAt wm_X10_227 win_X10_pieceAt wsel_X10_pieceAt (dmM hs kc279 (by decide)) (clE_k E s kc279) rfl ⟨rfl, rfl⟩ (by decide) (by decide) (As := [.int (jI x3_33), .int (jI x4_46)]) (rest := [.long (jL (31 * h1_46))]) rfl rfl (Nat.le_of_ble_eq_true rfl) dX10_digest_61 (J_pI (fun v66 g68 h => ?_))
              refine J_i2l C g68 dX10_digest_64 ?_
              refine J_ladd C dX10_digest_65 ?_
              obtain ⟨h1_66, e70⟩ : ∃ v : Int, v = ((31 * h1_46) + v66) := ⟨_, rfl⟩
              replace h := h h1_66 e70
              refine J_topL e70 ?_
              refine J_lstore_n C dX10_digest_66 rfl (by decide) (lv' := [(1, .long (jL h1_66)), (0, .ref (adE E 279)), (3, .int (jI x3_33)), (4, .int (jI x4_46))]) rfl ?_
              refine J_iinc C dX10_digest_67 3 rfl (by decide) (lv' := [(4, .int (jI (x4_46 + 1))), (1, .long (jL h1_66)), (0, .ref (adE E 279)), (3, .int (jI x3_33))]) rfl ?_
              refine J_goto C (tgt := 46) dX10_digest_70 (by decide) ?_
              obtain ⟨g71, h⟩ := h
              exact J_sub [2, 1, 3, 0] rfl (h g71)
          )
          exact J_sub [1, 2, 3, 0] rfl (h (rgN 0 (by decide)))
      )
      exact J_sub [1, 2, 0] rfl (h (rgN 0 (by decide)))
    · replace h := h.2 q80
      refine J_ldc2 C dX10_digest_12 wc_X10_214 ?_
      refine J_lload_n C dX10_digest_15 rfl 1 rfl ?_
      refine J_lmul C dX10_digest_16 ?_
      refine J_aload_n C dX10_digest_17 rfl 0 rfl ?_
      refine J_iload_n C dX10_digest_18 rfl 2 rfl ?_
      refine J_V C (ct_X10_told hs g3_6 h) ck_X10_told wm_X10_224 win_X10_told wsel_X10_told (dmM hs kc279 (by decide)) (clE_k E s kc279) rfl ⟨rfl, rfl⟩ (by decide) (by decide) (As := [.int (jI x3_6)]) (rest := [.long (jL (31 * h1_6))]) rfl rfl (Nat.le_of_ble_eq_true rfl) dX10_digest_19 (J_pI (fun v74 g76 h => ?_))
      refine J_i2l C g76 dX10_digest_22 ?_
      refine J_ladd C dX10_digest_23 ?_
      obtain ⟨h1_24, e78⟩ : ∃ v : Int, v = ((31 * h1_6) + v74) := ⟨_, rfl⟩
      replace h := h h1_24 e78
      refine J_topL e78 ?_
      refine J_lstore_n C dX10_digest_24 rfl (by decide) (lv' := [(1, .long (jL h1_24)), (0, .ref (adE E 279)), (3, .int (jI x3_6))]) rfl ?_
      refine J_iinc C dX10_digest_25 2 rfl (by decide) (lv' := [(3, .int (jI (x3_6 + 1))), (1, .long (jL h1_24)), (0, .ref (adE E 279))]) rfl ?_
      refine J_goto C (tgt := 6) dX10_digest_28 (by decide) ?_
      obtain ⟨g79, h⟩ := h
      exact J_sub [2, 1, 0] rfl (h g79)
  )
  exact J_sub [2, 1, 0] rfl (h (rgN 0 (by decide)))
