/-! contracts (printed by wip/whole/gen) -/
set_option maxHeartbeats 4000000 in
set_option maxRecDepth 100000 in
theorem ct_X10_brokenAt {l : Launch} {E : ET} (hs : eS E = false) {s : Sg} {x1 : Int} (g1 : rgI x1) {Q : Int → Prop} (h : wp_X10_brokenAt x1 s Q) : MetE l E yX10_brokenAt cX10_brokenAt 12 (some .int) rm_X10_brokenAt s [.ref (adE E 279), .int (jI x1)] (qI (fun r t => Q r ∧ t = s) (gN s)) := by
  refine MetJ (by decide +kernel) (Nat.le_of_ble_eq_true rfl) ?_
  intro F hl C hF
  subst hl
  show JJ F E 0 0 s 0 [(0, .ref (adE E 279)), (1, .int (jI x1))] []
  refine J_aload_n C dX10_brokenAt_0 rfl 0 rfl ?_
  refine J_iload_n C dX10_brokenAt_1 rfl 1 rfl ?_
  refine J_V C (ct_X10_longOf hs g1 h) ck_X10_longOf wm_X10_94 win_X10_longOf wsel_X10_longOf (dmM hs kc279 (by decide)) (clE_k E s kc279) rfl ⟨rfl, rfl⟩ (by decide) (by decide) (As := [.int (jI x1)]) (rest := []) rfl rfl (Nat.le_of_ble_eq_true rfl) dX10_brokenAt_2 (J_pI (fun v21 g23 h => ?_))
  refine J_istore_n C dX10_brokenAt_5 rfl (by decide) (lv' := [(2, .int (jI v21)), (0, .ref (adE E 279)), (1, .int (jI x1))]) rfl ?_
  refine J_aload_n C dX10_brokenAt_6 rfl 1 rfl ?_
  refine J_iconst C dX10_brokenAt_7 ?_
  refine J_V C (ct_X10_setting hs (rgN 4 (by decide)) h) ck_X10_setting wm_X10_105 win_X10_setting wsel_X10_setting (dmM hs kc279 (by decide)) (clE_k E s kc279) rfl ⟨rfl, rfl⟩ (by decide) (by decide) (As := [.int (jI 4)]) (rest := []) rfl rfl (Nat.le_of_ble_eq_true rfl) dX10_brokenAt_8 (J_pI (fun v25 g27 h => ?_))
  refine J_istore_n C dX10_brokenAt_11 rfl (by decide) (lv' := [(3, .int (jI v25)), (2, .int (jI v21)), (0, .ref (adE E 279)), (1, .int (jI x1))]) rfl ?_
  refine J_bipush C dX10_brokenAt_12 (by decide) ?_
  refine J_istore C dX10_brokenAt_14 (by decide) (lv' := [(4, .int (jI (-9))), (3, .int (jI v25)), (2, .int (jI v21)), (0, .ref (adE E 279)), (1, .int (jI x1))]) rfl ?_
  refine J_iconst C dX10_brokenAt_16 ?_
  refine J_istore C dX10_brokenAt_17 (by decide) (lv' := [(5, .int (jI 0)), (4, .int (jI (-9))), (3, .int (jI v25)), (2, .int (jI v21)), (0, .ref (adE E 279)), (1, .int (jI x1))]) rfl ?_
  refine J_iconst C dX10_brokenAt_19 ?_
  refine J_istore C dX10_brokenAt_20 (by decide) (lv' := [(6, .int (jI 0)), (5, .int (jI 0)), (4, .int (jI (-9))), (3, .int (jI v25)), (2, .int (jI v21)), (0, .ref (adE E 279)), (1, .int (jI x1))]) rfl ?_
  refine J_iconst C dX10_brokenAt_22 ?_
  refine J_istore C dX10_brokenAt_23 (by decide) (lv' := [(7, .int (jI 0)), (6, .int (jI 0)), (5, .int (jI 0)), (4, .int (jI (-9))), (3, .int (jI v25)), (2, .int (jI v21)), (0, .ref (adE E 279)), (1, .int (jI x1))]) rfl ?_
  replace h := h (fun (x4_25 : Int) (x5_25 : Int) (x6_25 : Int) (x7_25 : Int) => rgI x4_25 → rgI x5_25 → rgI x6_25 → rgI x7_25 → JJ F E 0 0 s 25 [(0, .ref (adE E 279)), (1, .int (jI x1)), (2, .int (jI v21)), (3, .int (jI v25)), (4, .int (jI x4_25)), (5, .int (jI x5_25)), (6, .int (jI x6_25)), (7, .int (jI x7_25))] []) (by
    intro x4_25 x5_25 x6_25 x7_25 h g4_25 g5_25 g6_25 g7_25
    have j161 : ∀ (x4 : Int) (x5 : Int) (x6 : Int) (x7 : Int), wj_X10_brokenAt_161 (fun (x4_25 : Int) (x5_25 : Int) (x6_25 : Int) (x7_25 : Int) => rgI x4_25 → rgI x5_25 → rgI x6_25 → rgI x7_25 → JJ F E 0 0 s 25 [(0, .ref (adE E 279)), (1, .int (jI x1)), (2, .int (jI v21)), (3, .int (jI v25)), (4, .int (jI x4_25)), (5, .int (jI x5_25)), (6, .int (jI x6_25)), (7, .int (jI x7_25))] []) x1 v21 v25 x4 x5 x6 x7 s Q → rgI x4 → rgI x5 → rgI x6 → rgI x7 → JJ F E 0 0 s 161 [(0, .ref (adE E 279)), (1, .int (jI x1)), (2, .int (jI v21)), (3, .int (jI v25)), (4, .int (jI x4)), (5, .int (jI x5)), (6, .int (jI x6)), (7, .int (jI x7))] [] := by
      intro x4 x5 x6 x7 h g4 g5 g6 g7
      refine J_iinc C dX10_brokenAt_161 7 rfl (by decide) (lv' := [(7, .int (jI (x7 + 1))), (0, .ref (adE E 279)), (1, .int (jI x1)), (2, .int (jI v21)), (3, .int (jI v25)), (4, .int (jI x4)), (5, .int (jI x5)), (6, .int (jI x6))]) rfl ?_
      refine J_goto C (tgt := 25) dX10_brokenAt_164 (by decide) ?_
      obtain ⟨g33, h⟩ := h
      exact J_sub [1, 2, 3, 4, 5, 6, 7, 0] rfl (h g4 g5 g6 g33)
    have j149 : ∀ (x7 : Int) (x10 : Int) (x11 : Int), wj_X10_brokenAt_149 (fun (x4_25 : Int) (x5_25 : Int) (x6_25 : Int) (x7_25 : Int) => rgI x4_25 → rgI x5_25 → rgI x6_25 → rgI x7_25 → JJ F E 0 0 s 25 [(0, .ref (adE E 279)), (1, .int (jI x1)), (2, .int (jI v21)), (3, .int (jI v25)), (4, .int (jI x4_25)), (5, .int (jI x5_25)), (6, .int (jI x6_25)), (7, .int (jI x7_25))] []) x1 v21 v25 x7 x10 x11 s Q → rgI x7 → rgI x10 → rgI x11 → JJ F E 0 0 s 149 [(0, .ref (adE E 279)), (1, .int (jI x1)), (2, .int (jI v21)), (3, .int (jI v25)), (7, .int (jI x7)), (10, .int (jI x10)), (11, .int (jI x11))] [] := by
      intro x7 x10 x11 h g7 g10 g11
      refine J_iload C dX10_brokenAt_149 4 rfl ?_
      refine J_istore C dX10_brokenAt_151 (by decide) (lv' := [(4, .int (jI x7)), (0, .ref (adE E 279)), (1, .int (jI x1)), (2, .int (jI v21)), (3, .int (jI v25)), (7, .int (jI x7)), (10, .int (jI x10)), (11, .int (jI x11))]) rfl ?_
      refine J_iload C dX10_brokenAt_153 7 rfl ?_
      refine J_istore C dX10_brokenAt_155 (by decide) (lv' := [(5, .int (jI x11)), (4, .int (jI x7)), (0, .ref (adE E 279)), (1, .int (jI x1)), (2, .int (jI v21)), (3, .int (jI v25)), (7, .int (jI x7)), (10, .int (jI x10)), (11, .int (jI x11))]) rfl ?_
      refine J_iload C dX10_brokenAt_157 7 rfl ?_
      refine J_istore C dX10_brokenAt_159 (by decide) (lv' := [(6, .int (jI x10)), (5, .int (jI x11)), (4, .int (jI x7)), (0, .ref (adE E 279)), (1, .int (jI x1)), (2, .int (jI v21)), (3, .int (jI v25)), (7, .int (jI x7)), (10, .int (jI x10)), (11, .int (jI x11))]) rfl ?_
      exact J_sub [3, 4, 5, 6, 2, 1, 0, 7] rfl (j161 _ _ _ _ h g7 g11 g10 g7)
    have j135 : ∀ (x4 : Int) (x5 : Int) (x6 : Int) (x7 : Int) (x10 : Int) (x11 : Int), wj_X10_brokenAt_135 (fun (x4_25 : Int) (x5_25 : Int) (x6_25 : Int) (x7_25 : Int) => rgI x4_25 → rgI x5_25 → rgI x6_25 → rgI x7_25 → JJ F E 0 0 s 25 [(0, .ref (adE E 279)), (1, .int (jI x1)), (2, .int (jI v21)), (3, .int (jI v25)), (4, .int (jI x4_25)), (5, .int (jI x5_25)), (6, .int (jI x6_25)), (7, .int (jI x7_25))] []) x1 v21 v25 x4 x5 x6 x7 x10 x11 s Q → rgI x4 → rgI x5 → rgI x6 → rgI x7 → rgI x10 → rgI x11 → JJ F E 0 0 s 135 [(0, .ref (adE E 279)), (1, .int (jI x1)), (2, .int (jI v21)), (3, .int (jI v25)), (4, .int (jI x4)), (5, .int (jI x5)), (6, .int (jI x6)), (7, .int (jI x7)), (10, .int (jI x10)), (11, .int (jI x11))] [] := by
      intro x4 x5 x6 x7 x10 x11 h g4 g5 g6 g7 g10 g11
      refine J_iload C dX10_brokenAt_135 8 rfl ?_
      refine J_iload C dX10_brokenAt_137 6 rfl ?_
      refine J_icmp_ne C g10 g6 (tgt := 161) dX10_brokenAt_139 (by decide) (fun q36 => ?_) (fun q36 => ?_)
      · replace h := h.2 q36
        exact J_sub [0, 1, 2, 3, 4, 5, 6, 7] rfl (j161 _ _ _ _ h g4 g5 g6 g7)
      · replace h := h.1 q36
        refine J_iload C dX10_brokenAt_142 9 rfl ?_
        refine J_iload C dX10_brokenAt_144 5 rfl ?_
        refine J_icmp_ge C g11 g5 (tgt := 161) dX10_brokenAt_146 (by decide) (fun q35 => ?_) (fun q35 => ?_)
        · replace h := h.1 q35
          exact J_sub [0, 1, 2, 3, 4, 5, 6, 7] rfl (j161 _ _ _ _ h g4 g5 g6 g7)
        · replace h := h.2 q35
          exact J_sub [0, 1, 2, 3, 7, 8, 9] rfl (j149 _ _ _ h g7 g10 g11)
    have j116 : ∀ (x4 : Int) (x5 : Int) (x6 : Int) (x7 : Int) (x10 : Int) (t0 : Int), wj_X10_brokenAt_116 (fun (x4_25 : Int) (x5_25 : Int) (x6_25 : Int) (x7_25 : Int) => rgI x4_25 → rgI x5_25 → rgI x6_25 → rgI x7_25 → JJ F E 0 0 s 25 [(0, .ref (adE E 279)), (1, .int (jI x1)), (2, .int (jI v21)), (3, .int (jI v25)), (4, .int (jI x4_25)), (5, .int (jI x5_25)), (6, .int (jI x6_25)), (7, .int (jI x7_25))] []) x1 v21 v25 x4 x5 x6 x7 x10 t0 s Q → rgI x4 → rgI x5 → rgI x6 → rgI x7 → rgI x10 → rgI t0 → JJ F E 0 0 s 116 [(0, .ref (adE E 279)), (1, .int (jI x1)), (2, .int (jI v21)), (3, .int (jI v25)), (4, .int (jI x4)), (5, .int (jI x5)), (6, .int (jI x6)), (7, .int (jI x7)), (10, .int (jI x10))] [.int (jI t0)] := by
      intro x4 x5 x6 x7 x10 t0 h g4 g5 g6 g7 g10 gt0
      refine J_istore C dX10_brokenAt_116 (by decide) (lv' := [(11, .int (jI t0)), (0, .ref (adE E 279)), (1, .int (jI x1)), (2, .int (jI v21)), (3, .int (jI v25)), (4, .int (jI x4)), (5, .int (jI x5)), (6, .int (jI x6)), (7, .int (jI x7)), (10, .int (jI x10))]) rfl ?_
      refine J_iload C dX10_brokenAt_118 5 rfl ?_
      refine J_bipush C dX10_brokenAt_120 (by decide) ?_
      refine J_icmp_eq C g4 (rgN (-9) (by decide)) (tgt := 149) dX10_brokenAt_122 (by decide) (fun q39 => ?_) (fun q39 => ?_)
      · replace h := h.1 q39
        exact J_sub [1, 2, 3, 4, 8, 9, 0] rfl (j149 _ _ _ h g7 g10 gt0)
      · replace h := h.2 q39
        refine J_iload C dX10_brokenAt_125 9 rfl ?_
        refine J_if_eq C g10 (tgt := 135) dX10_brokenAt_127 (by decide) (fun q38 => ?_) (fun q38 => ?_)
        · replace h := h.1 q38
          exact J_sub [1, 2, 3, 4, 5, 6, 7, 8, 9, 0] rfl (j135 _ _ _ _ _ _ h g4 g5 g6 g7 g10 gt0)
        · replace h := h.2 q38
          refine J_iload C dX10_brokenAt_130 7 rfl ?_
          refine J_if_eq C g6 (tgt := 149) dX10_brokenAt_132 (by decide) (fun q37 => ?_) (fun q37 => ?_)
          · replace h := h.1 q37
            exact J_sub [1, 2, 3, 4, 8, 9, 0] rfl (j149 _ _ _ h g7 g10 gt0)
          · replace h := h.2 q37
            exact J_sub [1, 2, 3, 4, 5, 6, 7, 8, 9, 0] rfl (j135 _ _ _ _ _ _ h g4 g5 g6 g7 g10 gt0)
    have j83 : ∀ (x4 : Int) (x5 : Int) (x6 : Int) (x7 : Int) (x8 : Int) (x9 : Int) (t0 : Int), wj_X10_brokenAt_83 (fun (x4_25 : Int) (x5_25 : Int) (x6_25 : Int) (x7_25 : Int) => rgI x4_25 → rgI x5_25 → rgI x6_25 → rgI x7_25 → JJ F E 0 0 s 25 [(0, .ref (adE E 279)), (1, .int (jI x1)), (2, .int (jI v21)), (3, .int (jI v25)), (4, .int (jI x4_25)), (5, .int (jI x5_25)), (6, .int (jI x6_25)), (7, .int (jI x7_25))] []) x1 v21 v25 x4 x5 x6 x7 x8 x9 t0 s Q → rgI x4 → rgI x5 → rgI x6 → rgI x7 → rgI x8 → rgI x9 → rgI t0 → JJ F E 0 0 s 83 [(0, .ref (adE E 279)), (1, .int (jI x1)), (2, .int (jI v21)), (3, .int (jI v25)), (4, .int (jI x4)), (5, .int (jI x5)), (6, .int (jI x6)), (7, .int (jI x7)), (8, .int (jI x8)), (9, .int (jI x9))] [.int (jI t0)] := by
      intro x4 x5 x6 x7 x8 x9 t0 h g4 g5 g6 g7 g8 g9 gt0
      refine J_istore C dX10_brokenAt_83 (by decide) (lv' := [(10, .int (jI t0)), (0, .ref (adE E 279)), (1, .int (jI x1)), (2, .int (jI v21)), (3, .int (jI v25)), (4, .int (jI x4)), (5, .int (jI x5)), (6, .int (jI x6)), (7, .int (jI x7)), (8, .int (jI x8)), (9, .int (jI x9))]) rfl ?_
      refine J_iload C dX10_brokenAt_85 0 rfl ?_
      refine J_if_eq C gt0 (tgt := 114) dX10_brokenAt_87 (by decide) (fun q45 => ?_) (fun q45 => ?_)
      · replace h := h.1 q45
        refine J_iload C dX10_brokenAt_114 10 rfl ?_
        exact J_sub [1, 2, 3, 4, 5, 6, 7, 8, 0] rfl (j116 _ _ _ _ _ _ h g4 g5 g6 g7 gt0 g9)
      · replace h := h.2 q45
        refine J_iconst C dX10_brokenAt_90 ?_
        refine J_iload C dX10_brokenAt_91 10 rfl ?_
        refine J_imul C dX10_brokenAt_93 ?_
        refine J_iload C dX10_brokenAt_94 8 rfl ?_
        refine J_isub C dX10_brokenAt_96 ?_
        refine J_iload C dX10_brokenAt_97 9 rfl ?_
        refine J_isub C dX10_brokenAt_99 ?_
        refine J_bipush C dX10_brokenAt_100 (by decide) ?_
        refine J_aload_n C dX10_brokenAt_102 rfl 1 rfl ?_
        refine J_iload_n C dX10_brokenAt_103 rfl 2 rfl ?_
        refine J_iload C dX10_brokenAt_104 8 rfl ?_
        refine J_V C (ct_X10_rankOf hs g1 g7 h) ck_X10_rankOf wm_X10_108 win_X10_rankOf wsel_X10_rankOf (dmM hs kc279 (by decide)) (clE_k E s kc279) rfl ⟨rfl, rfl⟩ (by decide) (by decide) (As := [.int (jI x1), .int (jI x7)]) (rest := [.int (jI 6), .int (jI (((2 * x9) - x7) - x8))]) rfl rfl (Nat.le_of_ble_eq_true rfl) dX10_brokenAt_106 (J_pI (fun v40 g42 h => ?_))
        refine J_imul C dX10_brokenAt_109 ?_
        refine J_iadd C dX10_brokenAt_110 ?_
        refine J_goto C (tgt := 116) dX10_brokenAt_111 (by decide) ?_
        obtain ⟨g44, h⟩ := h
        exact J_sub [1, 2, 3, 4, 5, 6, 7, 8, 0] rfl (j116 _ _ _ _ _ _ h g4 g5 g6 g7 gt0 g44)
    have j70 : ∀ (x4 : Int) (x5 : Int) (x6 : Int) (x7 : Int) (x8 : Int) (t0 : Int), wj_X10_brokenAt_70 (fun (x4_25 : Int) (x5_25 : Int) (x6_25 : Int) (x7_25 : Int) => rgI x4_25 → rgI x5_25 → rgI x6_25 → rgI x7_25 → JJ F E 0 0 s 25 [(0, .ref (adE E 279)), (1, .int (jI x1)), (2, .int (jI v21)), (3, .int (jI v25)), (4, .int (jI x4_25)), (5, .int (jI x5_25)), (6, .int (jI x6_25)), (7, .int (jI x7_25))] []) x1 v21 v25 x4 x5 x6 x7 x8 t0 s Q → rgI x4 → rgI x5 → rgI x6 → rgI x7 → rgI x8 → rgI t0 → JJ F E 0 0 s 70 [(0, .ref (adE E 279)), (1, .int (jI x1)), (2, .int (jI v21)), (3, .int (jI v25)), (4, .int (jI x4)), (5, .int (jI x5)), (6, .int (jI x6)), (7, .int (jI x7)), (8, .int (jI x8))] [.int (jI t0)] := by
      intro x4 x5 x6 x7 x8 t0 h g4 g5 g6 g7 g8 gt0
      refine J_istore C dX10_brokenAt_70 (by decide) (lv' := [(9, .int (jI t0)), (0, .ref (adE E 279)), (1, .int (jI x1)), (2, .int (jI v21)), (3, .int (jI v25)), (4, .int (jI x4)), (5, .int (jI x5)), (6, .int (jI x6)), (7, .int (jI x7)), (8, .int (jI x8))]) rfl ?_
      refine J_iload C dX10_brokenAt_72 0 rfl ?_
      refine J_iload_n C dX10_brokenAt_74 rfl 4 rfl ?_
      refine J_icmp_gt C gt0 g27 (tgt := 82) dX10_brokenAt_75 (by decide) (fun q46 => ?_) (fun q46 => ?_)
      · replace h := h.1 q46
        refine J_iconst C dX10_brokenAt_82 ?_
        exact J_sub [1, 2, 3, 4, 5, 6, 7, 8, 9, 0] rfl (j83 _ _ _ _ _ _ _ h g4 g5 g6 g7 g8 gt0 (rgN 0 (by decide)))
      · replace h := h.2 q46
        refine J_iconst C dX10_brokenAt_78 ?_
        refine J_goto C (tgt := 83) dX10_brokenAt_79 (by decide) ?_
        exact J_sub [1, 2, 3, 4, 5, 6, 7, 8, 9, 0] rfl (j83 _ _ _ _ _ _ _ h g4 g5 g6 g7 g8 gt0 (rgN 1 (by decide)))
    refine J_iload C dX10_brokenAt_25 7 rfl ?_
    refine J_iload_n C dX10_brokenAt_27 rfl 2 rfl ?_
    refine J_icmp_ge C g7_25 g23 (tgt := 167) dX10_brokenAt_28 (by decide) (fun q50 => ?_) (fun q50 => ?_)
    · replace h := h.1 q50
      refine J_iload C dX10_brokenAt_167 4 rfl ?_
      exact J_iret C (Nat.zero_le _) (Nat.zero_le _) dX10_brokenAt_169 (by rw [hF]; exact ⟨_, rfl, g4_25, ⟨h, rfl⟩, rfl⟩)
    · replace h := h.2 q50
      refine J_iload_n C dX10_brokenAt_31 rfl 2 rfl ?_
      refine J_iload_n C dX10_brokenAt_32 rfl 3 rfl ?_
      refine J_icmp_le C g23 g27 (tgt := 167) dX10_brokenAt_33 (by decide) (fun q49 => ?_) (fun q49 => ?_)
      · replace h := h.1 q49
        refine J_iload C dX10_brokenAt_167 4 rfl ?_
        exact J_iret C (Nat.zero_le _) (Nat.zero_le _) dX10_brokenAt_169 (by rw [hF]; exact ⟨_, rfl, g4_25, ⟨h, rfl⟩, rfl⟩)
      · replace h := h.2 q49
        refine J_aload_n C dX10_brokenAt_36 rfl 0 rfl ?_
        refine J_iload_n C dX10_brokenAt_37 rfl 1 rfl ?_
        refine J_iload C dX10_brokenAt_38 7 rfl ?_
        refine J_V C (ct_X10_byteOf hs g1 g7_25 h) ck_X10_byteOf wm_X10_97 win_X10_byteOf wsel_X10_byteOf (dmM hs kc279 (by decide)) (clE_k E s kc279) rfl ⟨rfl, rfl⟩ (by decide) (by decide) (As := [.int (jI x1), .int (jI x7_25)]) (rest := []) rfl rfl (Nat.le_of_ble_eq_true rfl) dX10_brokenAt_40 (J_pI (fun v29 g31 h => ?_))
        refine J_bipush C dX10_brokenAt_43 (by decide) ?_
        refine J_icmp_ne C g31 (rgN 32 (by decide)) (tgt := 161) dX10_brokenAt_45 (by decide) (fun q48 => ?_) (fun q48 => ?_)
        · replace h := h.2 q48
          exact J_sub [0, 1, 2, 3, 4, 5, 6, 7] rfl (j161 _ _ _ _ h g4_25 g5_25 g6_25 g7_25)
        · replace h := h.1 q48
          refine J_iload_n C dX10_brokenAt_48 rfl 2 rfl ?_
          refine J_iload C dX10_brokenAt_49 7 rfl ?_
          refine J_isub C dX10_brokenAt_51 ?_
          refine J_iconst C dX10_brokenAt_52 ?_
          refine J_isub C dX10_brokenAt_53 ?_
          obtain ⟨x8_54, e34⟩ : ∃ v : Int, v = ((v21 - x7_25) - 1) := ⟨_, rfl⟩
          obtain ⟨g8_54, h⟩ := h x8_54 e34
          refine J_top e34 ?_
          refine J_istore C dX10_brokenAt_54 (by decide) (lv' := [(8, .int (jI x8_54)), (0, .ref (adE E 279)), (1, .int (jI x1)), (2, .int (jI v21)), (3, .int (jI v25)), (4, .int (jI x4_25)), (5, .int (jI x5_25)), (6, .int (jI x6_25)), (7, .int (jI x7_25))]) rfl ?_
          refine J_iload C dX10_brokenAt_56 8 rfl ?_
          refine J_iload C dX10_brokenAt_58 0 rfl ?_
          refine J_icmp_le C g7_25 g8_54 (tgt := 68) dX10_brokenAt_60 (by decide) (fun q47 => ?_) (fun q47 => ?_)
          · replace h := h.1 q47
            refine J_iload C dX10_brokenAt_68 0 rfl ?_
            exact J_sub [1, 2, 3, 4, 5, 6, 7, 8, 0] rfl (j70 _ _ _ _ _ _ h g4_25 g5_25 g6_25 g7_25 g8_54 g8_54)
          · replace h := h.2 q47
            refine J_iload C dX10_brokenAt_63 8 rfl ?_
            refine J_goto C (tgt := 70) dX10_brokenAt_65 (by decide) ?_
            exact J_sub [1, 2, 3, 4, 5, 6, 7, 8, 0] rfl (j70 _ _ _ _ _ _ h g4_25 g5_25 g6_25 g7_25 g8_54 g7_25)
  )
  exact J_sub [6, 7, 5, 4, 3, 2, 1, 0] rfl (h (rgN (-9) (by decide)) (rgN 0 (by decide)) (rgN 0 (by decide)) (rgN 0 (by decide)))
set_option maxHeartbeats 4000000 in
set_option maxRecDepth 100000 in
theorem ct_X10_isTooWide {l : Launch} {E : ET} (hs : eS E = false) {s : Sg} {x1 : Int} (g1 : rgI x1) {Q : Int → Prop} (h : wp_X10_isTooWide x1 s Q) : MetE l E yX10_isTooWide cX10_isTooWide 4 (some .boolean) rm_X10_isTooWide s [.ref (adE E 279), .int (jI x1)] (qZ (fun r t => Q r ∧ t = s) (gN s)) := by
  refine MetJ (by decide +kernel) (Nat.le_of_ble_eq_true rfl) ?_
  intro F hl C hF
  subst hl
  show JJ F E 0 0 s 0 [(0, .ref (adE E 279)), (1, .int (jI x1))] []
  refine J_aload_n C dX10_isTooWide_0 rfl 0 rfl ?_
  refine J_iload_n C dX10_isTooWide_1 rfl 1 rfl ?_
  refine J_V C (ct_X10_brokenAt hs g1 h) ck_X10_brokenAt wm_X10_111 win_X10_brokenAt wsel_X10_brokenAt (dmM hs kc279 (by decide)) (clE_k E s kc279) rfl ⟨rfl, rfl⟩ (by decide) (by decide) (As := [.int (jI x1)]) (rest := []) rfl rfl (Nat.le_of_ble_eq_true rfl) dX10_isTooWide_2 (J_pI (fun v21 g23 h => ?_))
  refine J_istore_n C dX10_isTooWide_5 rfl (by decide) (lv' := [(2, .int (jI v21)), (0, .ref (adE E 279)), (1, .int (jI x1))]) rfl ?_
  refine J_aload_n C dX10_isTooWide_6 rfl 1 rfl ?_
  refine J_iload_n C dX10_isTooWide_7 rfl 2 rfl ?_
  refine J_V C (ct_X10_longOf hs g1 h) ck_X10_longOf wm_X10_94 win_X10_longOf wsel_X10_longOf (dmM hs kc279 (by decide)) (clE_k E s kc279) rfl ⟨rfl, rfl⟩ (by decide) (by decide) (As := [.int (jI x1)]) (rest := []) rfl rfl (Nat.le_of_ble_eq_true rfl) dX10_isTooWide_8 (J_pI (fun v25 g27 h => ?_))
  refine J_iload_n C dX10_isTooWide_11 rfl 0 rfl ?_
  refine J_isub C dX10_isTooWide_12 ?_
  refine J_iconst C dX10_isTooWide_13 ?_
  refine J_isub C dX10_isTooWide_14 ?_
  obtain ⟨x3_15, e29⟩ : ∃ v : Int, v = ((v25 - v21) - 1) := ⟨_, rfl⟩
  obtain ⟨g3_15, h⟩ := h x3_15 e29
  refine J_top e29 ?_
  refine J_istore_n C dX10_isTooWide_15 rfl (by decide) (lv' := [(3, .int (jI x3_15)), (2, .int (jI v21)), (0, .ref (adE E 279)), (1, .int (jI x1))]) rfl ?_
  refine J_iload_n C dX10_isTooWide_16 rfl 1 rfl ?_
  refine J_bipush C dX10_isTooWide_17 (by decide) ?_
  refine J_icmp_ne C g23 (rgN (-9) (by decide)) (tgt := 43) dX10_isTooWide_19 (by decide) (fun q49 => ?_) (fun q49 => ?_)
  · replace h := h.2 q49
    refine J_iload_n C dX10_isTooWide_43 rfl 1 rfl ?_
    refine J_aload_n C dX10_isTooWide_44 rfl 2 rfl ?_
    refine J_iconst C dX10_isTooWide_45 ?_
    refine J_V C (ct_X10_setting hs (rgN 4 (by decide)) h) ck_X10_setting wm_X10_105 win_X10_setting wsel_X10_setting (dmM hs kc279 (by decide)) (clE_k E s kc279) rfl ⟨rfl, rfl⟩ (by decide) (by decide) (As := [.int (jI 4)]) (rest := [.int (jI v21)]) rfl rfl (Nat.le_of_ble_eq_true rfl) dX10_isTooWide_46 (J_pI (fun v30 g32 h => ?_))
    refine J_icmp_gt C g23 g32 (tgt := 61) dX10_isTooWide_49 (by decide) (fun q39 => ?_) (fun q39 => ?_)
    · replace h := h.1 q39
      refine J_iconst C dX10_isTooWide_61 ?_
      refine J_goto C (tgt := 66) dX10_isTooWide_62 (by decide) ?_
      exact J_zret C (Nat.zero_le _) (Nat.zero_le _) (nar_z (Or.inr rfl)) dX10_isTooWide_66 (by rw [hF]; exact ⟨_, rfl, (Or.inr rfl), ⟨h, rfl⟩, rfl⟩)
    · replace h := h.2 q39
      refine J_iload_n C dX10_isTooWide_52 rfl 0 rfl ?_
      refine J_aload_n C dX10_isTooWide_53 rfl 2 rfl ?_
      refine J_iconst C dX10_isTooWide_54 ?_
      refine J_V C (ct_X10_setting hs (rgN 4 (by decide)) h) ck_X10_setting wm_X10_105 win_X10_setting wsel_X10_setting (dmM hs kc279 (by decide)) (clE_k E s kc279) rfl ⟨rfl, rfl⟩ (by decide) (by decide) (As := [.int (jI 4)]) (rest := [.int (jI x3_15)]) rfl rfl (Nat.le_of_ble_eq_true rfl) dX10_isTooWide_55 (J_pI (fun v34 g36 h => ?_))
      refine J_icmp_le C g3_15 g36 (tgt := 65) dX10_isTooWide_58 (by decide) (fun q38 => ?_) (fun q38 => ?_)
      · replace h := h.1 q38
        refine J_iconst C dX10_isTooWide_65 ?_
        exact J_zret C (Nat.zero_le _) (Nat.zero_le _) (nar_z (Or.inl rfl)) dX10_isTooWide_66 (by rw [hF]; exact ⟨_, rfl, (Or.inl rfl), ⟨h, rfl⟩, rfl⟩)
      · replace h := h.2 q38
        refine J_iconst C dX10_isTooWide_61 ?_
        refine J_goto C (tgt := 66) dX10_isTooWide_62 (by decide) ?_
        exact J_zret C (Nat.zero_le _) (Nat.zero_le _) (nar_z (Or.inr rfl)) dX10_isTooWide_66 (by rw [hF]; exact ⟨_, rfl, (Or.inr rfl), ⟨h, rfl⟩, rfl⟩)
  · replace h := h.1 q49
    refine J_aload_n C dX10_isTooWide_22 rfl 2 rfl ?_
    refine J_iload_n C dX10_isTooWide_23 rfl 3 rfl ?_
    refine J_V C (ct_X10_longOf hs g1 h) ck_X10_longOf wm_X10_94 win_X10_longOf wsel_X10_longOf (dmM hs kc279 (by decide)) (clE_k E s kc279) rfl ⟨rfl, rfl⟩ (by decide) (by decide) (As := [.int (jI x1)]) (rest := []) rfl rfl (Nat.le_of_ble_eq_true rfl) dX10_isTooWide_24 (J_pI (fun v40 g42 h => ?_))
    refine J_aload_n C dX10_isTooWide_27 rfl 2 rfl ?_
    refine J_iconst C dX10_isTooWide_28 ?_
    refine J_V C (ct_X10_setting hs (rgN 4 (by decide)) h) ck_X10_setting wm_X10_105 win_X10_setting wsel_X10_setting (dmM hs kc279 (by decide)) (clE_k E s kc279) rfl ⟨rfl, rfl⟩ (by decide) (by decide) (As := [.int (jI 4)]) (rest := [.int (jI v40)]) rfl rfl (Nat.le_of_ble_eq_true rfl) dX10_isTooWide_29 (J_pI (fun v44 g46 h => ?_))
    refine J_icmp_le C g42 g46 (tgt := 39) dX10_isTooWide_32 (by decide) (fun q48 => ?_) (fun q48 => ?_)
    · replace h := h.1 q48
      refine J_iconst C dX10_isTooWide_39 ?_
      refine J_goto C (tgt := 66) dX10_isTooWide_40 (by decide) ?_
      exact J_zret C (Nat.zero_le _) (Nat.zero_le _) (nar_z (Or.inl rfl)) dX10_isTooWide_66 (by rw [hF]; exact ⟨_, rfl, (Or.inl rfl), ⟨h, rfl⟩, rfl⟩)
    · replace h := h.2 q48
      refine J_iconst C dX10_isTooWide_35 ?_
      refine J_goto C (tgt := 66) dX10_isTooWide_36 (by decide) ?_
      exact J_zret C (Nat.zero_le _) (Nat.zero_le _) (nar_z (Or.inr rfl)) dX10_isTooWide_66 (by rw [hF]; exact ⟨_, rfl, (Or.inr rfl), ⟨h, rfl⟩, rfl⟩)
set_option maxHeartbeats 4000000 in
set_option maxRecDepth 100000 in
theorem ct_X10_charactersOf {l : Launch} {E : ET} (hs : eS E = false) {s : Sg} {x1 : Int} (g1 : rgI x1) {Q : Int → Prop} (h : wp_X10_charactersOf x1 s Q) : MetE l E yX10_charactersOf cX10_charactersOf 2 (some .int) rm_X10_charactersOf s [.ref (adE E 279), .int (jI x1)] (qI (fun r t => Q r ∧ t = s) (gN s)) := by
  refine MetJ (by decide +kernel) (Nat.le_of_ble_eq_true rfl) ?_
  intro F hl C hF
  subst hl
  show JJ F E 0 0 s 0 [(0, .ref (adE E 279)), (1, .int (jI x1))] []
  refine J_aload_n C dX10_charactersOf_0 rfl 0 rfl ?_
  refine J_aload_n C dX10_charactersOf_1 rfl 0 rfl ?_
  refine gf_X10_one C hs wf_X10_25 dX10_charactersOf_2 ?_
  refine J_iload_n C dX10_charactersOf_5 rfl 1 rfl ?_
  obtain ⟨b21, b22, h⟩ := h
  refine J_iald C (dmM hs kc285 (by decide)) (n := 16) (clE_k E s kc285) (by decide) b21 b22 dX10_charactersOf_6 (fun g23 => ?_)
  refine J_V C (ct_X10_longOf hs g23 h) ck_X10_longOf wm_X10_94 win_X10_longOf wsel_X10_longOf (dmM hs kc279 (by decide)) (clE_k E s kc279) rfl ⟨rfl, rfl⟩ (by decide) (by decide) (As := [.int (jI (gI s 285 x1))]) (rest := []) rfl rfl (Nat.le_of_ble_eq_true rfl) dX10_charactersOf_7 (J_pI (fun v24 g26 h => ?_))
  refine J_aload_n C dX10_charactersOf_10 rfl 0 rfl ?_
  refine gf_X10_parts C hs wf_X10_22 dX10_charactersOf_11 ?_
  refine J_iload_n C dX10_charactersOf_14 rfl 1 rfl ?_
  obtain ⟨b28, b29, h⟩ := h
  refine J_iald C (dmM hs kc284 (by decide)) (n := 16) (clE_k E s kc284) (by decide) b28 b29 dX10_charactersOf_15 (fun g30 => ?_)
  refine J_iconst C dX10_charactersOf_16 ?_
  refine J_icmp_ne C g30 (rgN 2 (by decide)) (tgt := 35) dX10_charactersOf_17 (by decide) (fun q40 => ?_) (fun q40 => ?_)
  · replace h := h.2 q40
    refine J_iconst C dX10_charactersOf_35 ?_
    refine J_iadd C dX10_charactersOf_36 ?_
    obtain ⟨g31, h⟩ := h
    exact J_iret C (Nat.zero_le _) (Nat.zero_le _) dX10_charactersOf_37 (by rw [hF]; exact ⟨_, rfl, g31, ⟨h, rfl⟩, rfl⟩)
  · replace h := h.1 q40
    refine J_aload_n C dX10_charactersOf_20 rfl 0 rfl ?_
    refine J_aload_n C dX10_charactersOf_21 rfl 0 rfl ?_
    refine gf_X10_two C hs wf_X10_28 dX10_charactersOf_22 ?_
    refine J_iload_n C dX10_charactersOf_25 rfl 1 rfl ?_
    obtain ⟨b32, b33, h⟩ := h
    refine J_iald C (dmM hs kc286 (by decide)) (n := 16) (clE_k E s kc286) (by decide) b32 b33 dX10_charactersOf_26 (fun g34 => ?_)
    refine J_V C (ct_X10_longOf hs g34 h) ck_X10_longOf wm_X10_94 win_X10_longOf wsel_X10_longOf (dmM hs kc279 (by decide)) (clE_k E s kc279) rfl ⟨rfl, rfl⟩ (by decide) (by decide) (As := [.int (jI (gI s 286 x1))]) (rest := [.int (jI v24)]) rfl rfl (Nat.le_of_ble_eq_true rfl) dX10_charactersOf_27 (J_pI (fun v35 g37 h => ?_))
    refine J_iconst C dX10_charactersOf_30 ?_
    refine J_iadd C dX10_charactersOf_31 ?_
    refine J_goto C (tgt := 36) dX10_charactersOf_32 (by decide) ?_
    refine J_iadd C dX10_charactersOf_36 ?_
    obtain ⟨g39, h⟩ := h
    exact J_iret C (Nat.zero_le _) (Nat.zero_le _) dX10_charactersOf_37 (by rw [hF]; exact ⟨_, rfl, g39, ⟨h, rfl⟩, rfl⟩)
set_option maxHeartbeats 4000000 in
set_option maxRecDepth 100000 in
theorem ct_X10_readingOf {l : Launch} {E : ET} (hs : eS E = false) {s : Sg} {x1 : Int} (g1 : rgI x1) {Q : Int → Prop} (h : wp_X10_readingOf x1 s Q) : MetE l E yX10_readingOf cX10_readingOf 3 (some .int) rm_X10_readingOf s [.ref (adE E 279), .int (jI x1)] (qI (fun r t => Q r ∧ t = s) (gN s)) := by
  refine MetJ (by decide +kernel) (Nat.le_of_ble_eq_true rfl) ?_
  intro F hl C hF
  subst hl
  show JJ F E 0 0 s 0 [(0, .ref (adE E 279)), (1, .int (jI x1))] []
  refine J_aload_n C dX10_readingOf_0 rfl 0 rfl ?_
  refine J_iconst C dX10_readingOf_1 ?_
  refine J_V C (ct_X10_setting hs (rgN 0 (by decide)) h) ck_X10_setting wm_X10_105 win_X10_setting wsel_X10_setting (dmM hs kc279 (by decide)) (clE_k E s kc279) rfl ⟨rfl, rfl⟩ (by decide) (by decide) (As := [.int (jI 0)]) (rest := []) rfl rfl (Nat.le_of_ble_eq_true rfl) dX10_readingOf_2 (J_pI (fun v21 g23 h => ?_))
  refine J_aload_n C dX10_readingOf_5 rfl 0 rfl ?_
  refine J_iload_n C dX10_readingOf_6 rfl 1 rfl ?_
  refine J_V C (ct_X10_charactersOf hs g1 h) ck_X10_charactersOf wm_X10_114 win_X10_charactersOf wsel_X10_charactersOf (dmM hs kc279 (by decide)) (clE_k E s kc279) rfl ⟨rfl, rfl⟩ (by decide) (by decide) (As := [.int (jI x1)]) (rest := [.int (jI v21)]) rfl rfl (Nat.le_of_ble_eq_true rfl) dX10_readingOf_7 (J_pI (fun v25 g27 h => ?_))
  refine J_imul C dX10_readingOf_10 ?_
  obtain ⟨x2_11, e29⟩ : ∃ v : Int, v = (v21 * v25) := ⟨_, rfl⟩
  obtain ⟨g2_11, h⟩ := h x2_11 e29
  refine J_top e29 ?_
  refine J_istore_n C dX10_readingOf_11 rfl (by decide) (lv' := [(2, .int (jI x2_11)), (0, .ref (adE E 279)), (1, .int (jI x1))]) rfl ?_
  refine J_iload_n C dX10_readingOf_12 rfl 0 rfl ?_
  refine J_aload_n C dX10_readingOf_13 rfl 1 rfl ?_
  refine J_iconst C dX10_readingOf_14 ?_
  refine J_V C (ct_X10_setting hs (rgN 1 (by decide)) h) ck_X10_setting wm_X10_105 win_X10_setting wsel_X10_setting (dmM hs kc279 (by decide)) (clE_k E s kc279) rfl ⟨rfl, rfl⟩ (by decide) (by decide) (As := [.int (jI 1)]) (rest := [.int (jI x2_11)]) rfl rfl (Nat.le_of_ble_eq_true rfl) dX10_readingOf_15 (J_pI (fun v30 g32 h => ?_))
  refine J_icmp_le C g2_11 g32 (tgt := 25) dX10_readingOf_18 (by decide) (fun q38 => ?_) (fun q38 => ?_)
  · replace h := h.1 q38
    refine J_aload_n C dX10_readingOf_25 rfl 1 rfl ?_
    refine J_iconst C dX10_readingOf_26 ?_
    refine J_V C (ct_X10_setting hs (rgN 1 (by decide)) h) ck_X10_setting wm_X10_105 win_X10_setting wsel_X10_setting (dmM hs kc279 (by decide)) (clE_k E s kc279) rfl ⟨rfl, rfl⟩ (by decide) (by decide) (As := [.int (jI 1)]) (rest := []) rfl rfl (Nat.le_of_ble_eq_true rfl) dX10_readingOf_27 (J_pI (fun v34 g36 h => ?_))
    exact J_iret C (Nat.zero_le _) (Nat.zero_le _) dX10_readingOf_30 (by rw [hF]; exact ⟨_, rfl, g36, ⟨h, rfl⟩, rfl⟩)
  · replace h := h.2 q38
    refine J_iload_n C dX10_readingOf_21 rfl 0 rfl ?_
    refine J_goto C (tgt := 30) dX10_readingOf_22 (by decide) ?_
    exact J_iret C (Nat.zero_le _) (Nat.zero_le _) dX10_readingOf_30 (by rw [hF]; exact ⟨_, rfl, g2_11, ⟨h, rfl⟩, rfl⟩)
set_option maxHeartbeats 4000000 in
set_option maxRecDepth 100000 in
theorem ct_X10_nextOf {l : Launch} {E : ET} (hs : eS E = false) {s : Sg} {x1 : Int} (g1 : rgI x1) {Q : Int → Prop} (h : wp_X10_nextOf x1 s Q) : MetE l E yX10_nextOf cX10_nextOf 3 (some .int) rm_X10_nextOf s [.ref (adE E 279), .int (jI x1)] (qI (fun r t => Q r ∧ t = s) (gN s)) := by
  refine MetJ (by decide +kernel) (Nat.le_of_ble_eq_true rfl) ?_
  intro F hl C hF
  subst hl
  show JJ F E 0 0 s 0 [(0, .ref (adE E 279)), (1, .int (jI x1))] []
  refine J_iload_n C dX10_nextOf_0 rfl 1 rfl ?_
  refine J_iconst C dX10_nextOf_1 ?_
  refine J_iadd C dX10_nextOf_2 ?_
  obtain ⟨x2_3, e21⟩ : ∃ v : Int, v = (x1 + 1) := ⟨_, rfl⟩
  obtain ⟨g2_3, h⟩ := h x2_3 e21
  refine J_top e21 ?_
  refine J_istore_n C dX10_nextOf_3 rfl (by decide) (lv' := [(2, .int (jI x2_3)), (0, .ref (adE E 279)), (1, .int (jI x1))]) rfl ?_
  replace h := h (fun (x2_4 : Int) => rgI x2_4 → JJ F E 0 0 s 4 [(0, .ref (adE E 279)), (1, .int (jI x1)), (2, .int (jI x2_4))] []) (by
    intro x2_4 h g2_4
    refine J_iload_n C dX10_nextOf_4 rfl 2 rfl ?_
    refine J_aload_n C dX10_nextOf_5 rfl 0 rfl ?_
    refine gf_X10_many C hs wf_X10_84 dX10_nextOf_6 (fun g22 => ?_)
    refine J_icmp_ge C g2_4 g22 (tgt := 35) dX10_nextOf_9 (by decide) (fun q31 => ?_) (fun q31 => ?_)
    · replace h := h.1 q31
      refine J_bipush C dX10_nextOf_35 (by decide) ?_
      exact J_iret C (Nat.zero_le _) (Nat.zero_le _) dX10_nextOf_37 (by rw [hF]; exact ⟨_, rfl, (rgN (-9) (by decide)), ⟨h, rfl⟩, rfl⟩)
    · replace h := h.2 q31
      refine J_aload_n C dX10_nextOf_12 rfl 0 rfl ?_
      refine gf_X10_begins C hs wf_X10_16 dX10_nextOf_13 ?_
      refine J_iload_n C dX10_nextOf_16 rfl 2 rfl ?_
      obtain ⟨b23, b24, h⟩ := h
      refine J_iald C (dmM hs kc282 (by decide)) (n := 16) (clE_k E s kc282) (by decide) b23 b24 dX10_nextOf_17 (fun g25 => ?_)
      refine J_aload_n C dX10_nextOf_18 rfl 0 rfl ?_
      refine gf_X10_begins C hs wf_X10_16 dX10_nextOf_19 ?_
      refine J_iload_n C dX10_nextOf_22 rfl 1 rfl ?_
      obtain ⟨b26, b27, h⟩ := h
      refine J_iald C (dmM hs kc282 (by decide)) (n := 16) (clE_k E s kc282) (by decide) b26 b27 dX10_nextOf_23 (fun g28 => ?_)
      refine J_icmp_le C g25 g28 (tgt := 29) dX10_nextOf_24 (by decide) (fun q30 => ?_) (fun q30 => ?_)
      · replace h := h.1 q30
        refine J_iinc C dX10_nextOf_29 2 rfl (by decide) (lv' := [(2, .int (jI (x2_4 + 1))), (0, .ref (adE E 279)), (1, .int (jI x1))]) rfl ?_
        refine J_goto C (tgt := 4) dX10_nextOf_32 (by decide) ?_
        obtain ⟨g29, h⟩ := h
        exact J_sub [1, 2, 0] rfl (h g29)
      · replace h := h.2 q30
        refine J_iload_n C dX10_nextOf_27 rfl 2 rfl ?_
        exact J_iret C (Nat.zero_le _) (Nat.zero_le _) dX10_nextOf_28 (by rw [hF]; exact ⟨_, rfl, g2_4, ⟨h, rfl⟩, rfl⟩)
  )
  exact J_sub [1, 2, 0] rfl (h g2_3)
set_option maxHeartbeats 4000000 in
set_option maxRecDepth 100000 in
theorem ct_X10_near {l : Launch} {E : ET} (hs : eS E = false) {s : Sg} {x1 : Int} (g1 : rgI x1) {Q : Int → Prop} (h : wp_X10_near x1 s Q) : MetE l E yX10_near cX10_near 6 (some .int) rm_X10_near s [.ref (adE E 279), .int (jI x1)] (qI (fun r t => Q r ∧ t = s) (gN s)) := by
  refine MetJ (by decide +kernel) (Nat.le_of_ble_eq_true rfl) ?_
  intro F hl C hF
  subst hl
  show JJ F E 0 0 s 0 [(0, .ref (adE E 279)), (1, .int (jI x1))] []
  refine J_bipush C dX10_near_0 (by decide) ?_
  refine J_istore_n C dX10_near_2 rfl (by decide) (lv' := [(2, .int (jI (-9))), (0, .ref (adE E 279)), (1, .int (jI x1))]) rfl ?_
  refine J_aload_n C dX10_near_3 rfl 1 rfl ?_
  refine J_iconst C dX10_near_4 ?_
  refine J_V C (ct_X10_setting hs (rgN 3 (by decide)) h) ck_X10_setting wm_X10_105 win_X10_setting wsel_X10_setting (dmM hs kc279 (by decide)) (clE_k E s kc279) rfl ⟨rfl, rfl⟩ (by decide) (by decide) (As := [.int (jI 3)]) (rest := []) rfl rfl (Nat.le_of_ble_eq_true rfl) dX10_near_5 (J_pI (fun v21 g23 h => ?_))
  refine J_iconst C dX10_near_8 ?_
  refine J_iadd C dX10_near_9 ?_
  obtain ⟨x3_10, e25⟩ : ∃ v : Int, v = (v21 + 1) := ⟨_, rfl⟩
  obtain ⟨g3_10, h⟩ := h x3_10 e25
  refine J_top e25 ?_
  refine J_istore_n C dX10_near_10 rfl (by decide) (lv' := [(3, .int (jI x3_10)), (2, .int (jI (-9))), (0, .ref (adE E 279)), (1, .int (jI x1))]) rfl ?_
  refine J_iconst C dX10_near_11 ?_
  refine J_istore C dX10_near_12 (by decide) (lv' := [(4, .int (jI 0)), (3, .int (jI x3_10)), (2, .int (jI (-9))), (0, .ref (adE E 279)), (1, .int (jI x1))]) rfl ?_
  replace h := h (fun (x2_14 : Int) (x3_14 : Int) (x4_14 : Int) => rgI x2_14 → rgI x3_14 → rgI x4_14 → JJ F E 0 0 s 14 [(0, .ref (adE E 279)), (1, .int (jI x1)), (2, .int (jI x2_14)), (3, .int (jI x3_14)), (4, .int (jI x4_14))] []) (by
    intro x2_14 x3_14 x4_14 h g2_14 g3_14 g4_14
    have j102 : ∀ (x2 : Int) (x4 : Int) (t0 : Int), wj_X10_near_102 (fun (x2_14 : Int) (x3_14 : Int) (x4_14 : Int) => rgI x2_14 → rgI x3_14 → rgI x4_14 → JJ F E 0 0 s 14 [(0, .ref (adE E 279)), (1, .int (jI x1)), (2, .int (jI x2_14)), (3, .int (jI x3_14)), (4, .int (jI x4_14))] []) x1 x2 x4 t0 s Q → rgI x2 → rgI x4 → rgI t0 → JJ F E 0 0 s 102 [(0, .ref (adE E 279)), (1, .int (jI x1)), (2, .int (jI x2)), (4, .int (jI x4))] [.int (jI t0)] := by
      intro x2 x4 t0 h g2 g4 gt0
      refine J_istore_n C dX10_near_102 rfl (by decide) (lv' := [(3, .int (jI t0)), (0, .ref (adE E 279)), (1, .int (jI x1)), (2, .int (jI x2)), (4, .int (jI x4))]) rfl ?_
      refine J_iinc C dX10_near_103 4 rfl (by decide) (lv' := [(4, .int (jI (x4 + 1))), (3, .int (jI t0)), (0, .ref (adE E 279)), (1, .int (jI x1)), (2, .int (jI x2))]) rfl ?_
      refine J_goto C (tgt := 14) dX10_near_106 (by decide) ?_
      obtain ⟨g35, h⟩ := h
      exact J_sub [2, 3, 4, 1, 0] rfl (h g2 gt0 g35)
    have j89 : ∀ (x3 : Int) (x4 : Int) (x5 : Int) (t0 : Int), wj_X10_near_89 (fun (x2_14 : Int) (x3_14 : Int) (x4_14 : Int) => rgI x2_14 → rgI x3_14 → rgI x4_14 → JJ F E 0 0 s 14 [(0, .ref (adE E 279)), (1, .int (jI x1)), (2, .int (jI x2_14)), (3, .int (jI x3_14)), (4, .int (jI x4_14))] []) x1 x3 x4 x5 t0 s Q → rgI x3 → rgI x4 → rgI x5 → rgI t0 → JJ F E 0 0 s 89 [(0, .ref (adE E 279)), (1, .int (jI x1)), (3, .int (jI x3)), (4, .int (jI x4)), (5, .int (jI x5))] [.int (jI t0)] := by
      intro x3 x4 x5 t0 h g3 g4 g5 gt0
      refine J_istore_n C dX10_near_89 rfl (by decide) (lv' := [(2, .int (jI t0)), (0, .ref (adE E 279)), (1, .int (jI x1)), (3, .int (jI x3)), (4, .int (jI x4)), (5, .int (jI x5))]) rfl ?_
      refine J_iload C dX10_near_90 5 rfl ?_
      refine J_iload_n C dX10_near_92 rfl 3 rfl ?_
      refine J_icmp_ge C g5 g3 (tgt := 101) dX10_near_93 (by decide) (fun q36 => ?_) (fun q36 => ?_)
      · replace h := h.1 q36
        refine J_iload_n C dX10_near_101 rfl 3 rfl ?_
        exact J_sub [1, 2, 0, 4] rfl (j102 _ _ _ h gt0 g4 g3)
      · replace h := h.2 q36
        refine J_iload C dX10_near_96 5 rfl ?_
        refine J_goto C (tgt := 102) dX10_near_98 (by decide) ?_
        exact J_sub [1, 2, 0, 4] rfl (j102 _ _ _ h gt0 g4 g5)
    have j67 : ∀ (x2 : Int) (x3 : Int) (x4 : Int) (t0 : Int), wj_X10_near_67 (fun (x2_14 : Int) (x3_14 : Int) (x4_14 : Int) => rgI x2_14 → rgI x3_14 → rgI x4_14 → JJ F E 0 0 s 14 [(0, .ref (adE E 279)), (1, .int (jI x1)), (2, .int (jI x2_14)), (3, .int (jI x3_14)), (4, .int (jI x4_14))] []) x1 x2 x3 x4 t0 s Q → rgI x2 → rgI x3 → rgI x4 → rgI t0 → JJ F E 0 0 s 67 [(0, .ref (adE E 279)), (1, .int (jI x1)), (2, .int (jI x2)), (3, .int (jI x3)), (4, .int (jI x4))] [.int (jI t0)] := by
      intro x2 x3 x4 t0 h g2 g3 g4 gt0
      refine J_istore C dX10_near_67 (by decide) (lv' := [(5, .int (jI t0)), (0, .ref (adE E 279)), (1, .int (jI x1)), (2, .int (jI x2)), (3, .int (jI x3)), (4, .int (jI x4))]) rfl ?_
      refine J_iload C dX10_near_69 0 rfl ?_
      refine J_iload_n C dX10_near_71 rfl 4 rfl ?_
      refine J_icmp_ge C gt0 g3 (tgt := 88) dX10_near_72 (by decide) (fun q40 => ?_) (fun q40 => ?_)
      · replace h := h.1 q40
        refine J_iload_n C dX10_near_88 rfl 3 rfl ?_
        exact J_sub [1, 2, 4, 5, 0] rfl (j89 _ _ _ _ h g3 g4 gt0 g2)
      · replace h := h.2 q40
        refine J_aload_n C dX10_near_75 rfl 1 rfl ?_
        refine gf_X10_page C hs wf_X10_7 dX10_near_76 ?_
        refine J_bipush C dX10_near_79 (by decide) ?_
        refine J_iload C dX10_near_81 5 rfl ?_
        refine J_iadd C dX10_near_83 ?_
        obtain ⟨b37, b38, h⟩ := h
        refine J_iald C (dmM hs kc280 (by decide)) (n := 12960) (clE_k E s kc280) (by decide) b37 b38 dX10_near_84 (fun g39 => ?_)
        refine J_goto C (tgt := 89) dX10_near_85 (by decide) ?_
        exact J_sub [1, 2, 4, 5, 0] rfl (j89 _ _ _ _ h g3 g4 gt0 g39)
    refine J_iload C dX10_near_14 4 rfl ?_
    refine J_aload_n C dX10_near_16 rfl 0 rfl ?_
    refine gf_X10_page C hs wf_X10_7 dX10_near_17 ?_
    refine J_bipush C dX10_near_20 (by decide) ?_
    obtain ⟨b26, b27, h⟩ := h
    refine J_iald C (dmM hs kc280 (by decide)) (n := 12960) (clE_k E s kc280) (by decide) b26 b27 dX10_near_22 (fun g28 => ?_)
    refine J_icmp_ge C g4_14 g28 (tgt := 109) dX10_near_23 (by decide) (fun q47 => ?_) (fun q47 => ?_)
    · replace h := h.1 q47
      refine J_iload_n C dX10_near_109 rfl 2 rfl ?_
      exact J_iret C (Nat.zero_le _) (Nat.zero_le _) dX10_near_110 (by rw [hF]; exact ⟨_, rfl, g2_14, ⟨h, rfl⟩, rfl⟩)
    · replace h := h.2 q47
      refine J_aload_n C dX10_near_26 rfl 0 rfl ?_
      refine gf_X10_page C hs wf_X10_7 dX10_near_27 ?_
      refine J_bipush C dX10_near_30 (by decide) ?_
      refine J_iload C dX10_near_32 4 rfl ?_
      refine J_iadd C dX10_near_34 ?_
      obtain ⟨b29, b30, h⟩ := h
      refine J_iald C (dmM hs kc280 (by decide)) (n := 12960) (clE_k E s kc280) (by decide) b29 b30 dX10_near_35 (fun g31 => ?_)
      refine J_iload_n C dX10_near_36 rfl 1 rfl ?_
      refine J_icmp_le C g31 g1 (tgt := 55) dX10_near_37 (by decide) (fun q46 => ?_) (fun q46 => ?_)
      · replace h := h.1 q46
        refine J_iload_n C dX10_near_55 rfl 1 rfl ?_
        refine J_aload_n C dX10_near_56 rfl 0 rfl ?_
        refine gf_X10_page C hs wf_X10_7 dX10_near_57 ?_
        refine J_bipush C dX10_near_60 (by decide) ?_
        refine J_iload C dX10_near_62 4 rfl ?_
        refine J_iadd C dX10_near_64 ?_
        obtain ⟨b32, b33, h⟩ := h
        refine J_iald C (dmM hs kc280 (by decide)) (n := 12960) (clE_k E s kc280) (by decide) b32 b33 dX10_near_65 (fun g34 => ?_)
        refine J_isub C dX10_near_66 ?_
        obtain ⟨g41, h⟩ := h
        exact J_sub [0, 1, 2, 3, 4] rfl (j67 _ _ _ _ h g2_14 g3_14 g4_14 g41)
      · replace h := h.2 q46
        refine J_aload_n C dX10_near_40 rfl 0 rfl ?_
        refine gf_X10_page C hs wf_X10_7 dX10_near_41 ?_
        refine J_bipush C dX10_near_44 (by decide) ?_
        refine J_iload C dX10_near_46 4 rfl ?_
        refine J_iadd C dX10_near_48 ?_
        obtain ⟨b42, b43, h⟩ := h
        refine J_iald C (dmM hs kc280 (by decide)) (n := 12960) (clE_k E s kc280) (by decide) b42 b43 dX10_near_49 (fun g44 => ?_)
        refine J_iload_n C dX10_near_50 rfl 1 rfl ?_
        refine J_isub C dX10_near_51 ?_
        refine J_goto C (tgt := 67) dX10_near_52 (by decide) ?_
        obtain ⟨g45, h⟩ := h
        exact J_sub [0, 1, 2, 3, 4] rfl (j67 _ _ _ _ h g2_14 g3_14 g4_14 g45)
  )
  exact J_sub [3, 4, 2, 1, 0] rfl (h (rgN (-9) (by decide)) g3_10 (rgN 0 (by decide)))
set_option maxHeartbeats 4000000 in
set_option maxRecDepth 100000 in
theorem ct_X10_isOff {l : Launch} {E : ET} (hs : eS E = false) {s : Sg} {x1 : Int} (g1 : rgI x1) {Q : Int → Prop} (h : wp_X10_isOff x1 s Q) : MetE l E yX10_isOff cX10_isOff 2 (some .boolean) rm_X10_isOff s [.ref (adE E 279), .int (jI x1)] (qZ (fun r t => Q r ∧ t = s) (gN s)) := by
  refine MetJ (by decide +kernel) (Nat.le_of_ble_eq_true rfl) ?_
  intro F hl C hF
  subst hl
  show JJ F E 0 0 s 0 [(0, .ref (adE E 279)), (1, .int (jI x1))] []
  refine J_aload_n C dX10_isOff_0 rfl 0 rfl ?_
  refine J_iload_n C dX10_isOff_1 rfl 1 rfl ?_
  refine J_V C (ct_X10_near hs g1 h) ck_X10_near wm_X10_117 win_X10_near wsel_X10_near (dmM hs kc279 (by decide)) (clE_k E s kc279) rfl ⟨rfl, rfl⟩ (by decide) (by decide) (As := [.int (jI x1)]) (rest := []) rfl rfl (Nat.le_of_ble_eq_true rfl) dX10_isOff_2 (J_pI (fun v21 g23 h => ?_))
  refine J_bipush C dX10_isOff_5 (by decide) ?_
  refine J_icmp_eq C g23 (rgN (-9) (by decide)) (tgt := 23) dX10_isOff_7 (by decide) (fun q30 => ?_) (fun q30 => ?_)
  · replace h := h.1 q30
    refine J_iconst C dX10_isOff_23 ?_
    exact J_zret C (Nat.zero_le _) (Nat.zero_le _) (nar_z (Or.inl rfl)) dX10_isOff_24 (by rw [hF]; exact ⟨_, rfl, (Or.inl rfl), ⟨h, rfl⟩, rfl⟩)
  · replace h := h.2 q30
    refine J_aload_n C dX10_isOff_10 rfl 0 rfl ?_
    refine J_iload_n C dX10_isOff_11 rfl 1 rfl ?_
    refine J_V C (ct_X10_near hs g1 h) ck_X10_near wm_X10_117 win_X10_near wsel_X10_near (dmM hs kc279 (by decide)) (clE_k E s kc279) rfl ⟨rfl, rfl⟩ (by decide) (by decide) (As := [.int (jI x1)]) (rest := []) rfl rfl (Nat.le_of_ble_eq_true rfl) dX10_isOff_12 (J_pI (fun v25 g27 h => ?_))
    refine J_iload_n C dX10_isOff_15 rfl 1 rfl ?_
    refine J_icmp_eq C g27 g1 (tgt := 23) dX10_isOff_16 (by decide) (fun q29 => ?_) (fun q29 => ?_)
    · replace h := h.1 q29
      refine J_iconst C dX10_isOff_23 ?_
      exact J_zret C (Nat.zero_le _) (Nat.zero_le _) (nar_z (Or.inl rfl)) dX10_isOff_24 (by rw [hF]; exact ⟨_, rfl, (Or.inl rfl), ⟨h, rfl⟩, rfl⟩)
    · replace h := h.2 q29
      refine J_iconst C dX10_isOff_19 ?_
      refine J_goto C (tgt := 24) dX10_isOff_20 (by decide) ?_
      exact J_zret C (Nat.zero_le _) (Nat.zero_le _) (nar_z (Or.inr rfl)) dX10_isOff_24 (by rw [hF]; exact ⟨_, rfl, (Or.inr rfl), ⟨h, rfl⟩, rfl⟩)
set_option maxHeartbeats 4000000 in
set_option maxRecDepth 100000 in
theorem ct_X10_faultsOf {l : Launch} {E : ET} (hs : eS E = false) {s : Sg} {x1 : Int} (g1 : rgI x1) {Q : Int → Prop} (h : wp_X10_faultsOf x1 s Q) : MetE l E yX10_faultsOf cX10_faultsOf 5 (some .int) rm_X10_faultsOf s [.ref (adE E 279), .int (jI x1)] (qI (fun r t => Q r ∧ t = s) (gN s)) := by
  refine MetJ (by decide +kernel) (Nat.le_of_ble_eq_true rfl) ?_
  intro F hl C hF
  subst hl
  show JJ F E 0 0 s 0 [(0, .ref (adE E 279)), (1, .int (jI x1))] []
  have j218 : ∀ (x1 : Int) (t0 : Int) (t1 : Int), wj_X10_faultsOf_218   x1 t0 t1 s Q → rgI x1 → rgI t0 → rgI t1 → JJ F E 0 0 s 218 [(0, .ref (adE E 279)), (1, .int (jI x1))] [.int (jI t0), .int (jI t1)] := by
    intro x1 t0 t1 h g1 gt0 gt1
    refine J_iadd C dX10_faultsOf_218 ?_
    obtain ⟨x4_219, e54⟩ : ∃ v : Int, v = (t1 + t0) := ⟨_, rfl⟩
    obtain ⟨g4_219, h⟩ := h x4_219 e54
    refine J_top e54 ?_
    refine J_istore C dX10_faultsOf_219 (by decide) (lv' := [(4, .int (jI x4_219)), (0, .ref (adE E 279)), (1, .int (jI x1))]) rfl ?_
    refine J_iload C dX10_faultsOf_221 0 rfl ?_
    refine J_aload_n C dX10_faultsOf_223 rfl 1 rfl ?_
    refine gf_X10_ends C hs wf_X10_19 dX10_faultsOf_224 ?_
    refine J_iload_n C dX10_faultsOf_227 rfl 2 rfl ?_
    obtain ⟨b55, b56, h⟩ := h
    refine J_iald C (dmM hs kc283 (by decide)) (n := 16) (clE_k E s kc283) (by decide) b55 b56 dX10_faultsOf_228 (fun g57 => ?_)
    refine J_aload_n C dX10_faultsOf_229 rfl 1 rfl ?_
    refine J_V C (ct_X10_newLong hs h) ck_X10_newLong wm_X10_64 win_X10_newLong wsel_X10_newLong (dmM hs kc279 (by decide)) (clE_k E s kc279) rfl ⟨rfl, rfl⟩ (by decide) (by decide) (As := []) (rest := [.int (jI (gI s 283 x1)), .int (jI x4_219)]) rfl rfl (Nat.le_of_ble_eq_true rfl) dX10_faultsOf_230 (J_pI (fun v58 g60 h => ?_))
    refine J_icmp_le C g57 g60 (tgt := 241) dX10_faultsOf_233 (by decide) (fun q64 => ?_) (fun q64 => ?_)
    · replace h := h.1 q64
      refine J_iconst C dX10_faultsOf_241 ?_
      refine J_iadd C dX10_faultsOf_242 ?_
      obtain ⟨g62, h⟩ := h
      exact J_iret C (Nat.zero_le _) (Nat.zero_le _) dX10_faultsOf_243 (by rw [hF]; exact ⟨_, rfl, g62, ⟨h, rfl⟩, rfl⟩)
    · replace h := h.2 q64
      refine J_bipush C dX10_faultsOf_236 (by decide) ?_
      refine J_goto C (tgt := 242) dX10_faultsOf_238 (by decide) ?_
      refine J_iadd C dX10_faultsOf_242 ?_
      obtain ⟨g63, h⟩ := h
      exact J_iret C (Nat.zero_le _) (Nat.zero_le _) dX10_faultsOf_243 (by rw [hF]; exact ⟨_, rfl, g63, ⟨h, rfl⟩, rfl⟩)
  have j217 : ∀ (x1 : Int) (t0 : Int), wj_X10_faultsOf_217   x1 t0 s Q → rgI x1 → rgI t0 → JJ F E 0 0 s 217 [(0, .ref (adE E 279)), (1, .int (jI x1))] [.int (jI t0)] := by
    intro x1 t0 h g1 gt0
    refine J_iconst C dX10_faultsOf_217 ?_
    exact J_sub [0, 1] rfl (j218 _ _ _ h g1 (rgN 0 (by decide)) gt0)
  have j212 : ∀ (x1 : Int) (t0 : Int), wj_X10_faultsOf_212   x1 t0 s Q → rgI x1 → rgI t0 → JJ F E 0 0 s 212 [(0, .ref (adE E 279)), (1, .int (jI x1))] [.int (jI t0)] := by
    intro x1 t0 h g1 gt0
    refine J_bipush C dX10_faultsOf_212 (by decide) ?_
    refine J_goto C (tgt := 218) dX10_faultsOf_214 (by decide) ?_
    exact J_sub [0, 1] rfl (j218 _ _ _ h g1 (rgN 16 (by decide)) gt0)
  have j171 : ∀ (x1 : Int) (t0 : Int) (t1 : Int), wj_X10_faultsOf_171   x1 t0 t1 s Q → rgI x1 → rgI t0 → rgI t1 → JJ F E 0 0 s 171 [(0, .ref (adE E 279)), (1, .int (jI x1))] [.int (jI t0), .int (jI t1)] := by
    intro x1 t0 t1 h g1 gt0 gt1
    refine J_iadd C dX10_faultsOf_171 ?_
    obtain ⟨x4_172, e46⟩ : ∃ v : Int, v = (t1 + t0) := ⟨_, rfl⟩
    obtain ⟨g4_172, h⟩ := h x4_172 e46
    refine J_top e46 ?_
    refine J_istore C dX10_faultsOf_172 (by decide) (lv' := [(4, .int (jI x4_172)), (0, .ref (adE E 279)), (1, .int (jI x1))]) rfl ?_
    refine J_iload C dX10_faultsOf_174 0 rfl ?_
    refine J_aload_n C dX10_faultsOf_176 rfl 1 rfl ?_
    refine J_aload_n C dX10_faultsOf_177 rfl 1 rfl ?_
    refine gf_X10_one C hs wf_X10_25 dX10_faultsOf_178 ?_
    refine J_iload_n C dX10_faultsOf_181 rfl 2 rfl ?_
    obtain ⟨b47, b48, h⟩ := h
    refine J_iald C (dmM hs kc285 (by decide)) (n := 16) (clE_k E s kc285) (by decide) b47 b48 dX10_faultsOf_182 (fun g49 => ?_)
    refine J_V C (ct_X10_isTooWide hs g49 h) ck_X10_isTooWide wm_X10_129 win_X10_isTooWide wsel_X10_isTooWide (dmM hs kc279 (by decide)) (clE_k E s kc279) rfl ⟨rfl, rfl⟩ (by decide) (by decide) (As := [.int (jI (gI s 285 x1))]) (rest := [.int (jI x4_172)]) rfl rfl (Nat.le_of_ble_eq_true rfl) dX10_faultsOf_183 (J_pZ (fun v50 g52 h => ?_))
    refine J_if_ne C (rg_z g52) (tgt := 212) dX10_faultsOf_186 (by decide) (fun q77 => ?_) (fun q77 => ?_)
    · replace h := h.2 q77
      exact J_sub [1, 2] rfl (j212 _ _ h g1 g4_172)
    · replace h := h.1 q77
      refine J_aload_n C dX10_faultsOf_189 rfl 1 rfl ?_
      refine gf_X10_parts C hs wf_X10_22 dX10_faultsOf_190 ?_
      refine J_iload_n C dX10_faultsOf_193 rfl 2 rfl ?_
      obtain ⟨b65, b66, h⟩ := h
      refine J_iald C (dmM hs kc284 (by decide)) (n := 16) (clE_k E s kc284) (by decide) b65 b66 dX10_faultsOf_194 (fun g67 => ?_)
      refine J_iconst C dX10_faultsOf_195 ?_
      refine J_icmp_ne C g67 (rgN 2 (by decide)) (tgt := 217) dX10_faultsOf_196 (by decide) (fun q76 => ?_) (fun q76 => ?_)
      · replace h := h.2 q76
        exact J_sub [1, 2] rfl (j217 _ _ h g1 g4_172)
      · replace h := h.1 q76
        refine J_aload_n C dX10_faultsOf_199 rfl 1 rfl ?_
        refine J_aload_n C dX10_faultsOf_200 rfl 1 rfl ?_
        refine gf_X10_two C hs wf_X10_28 dX10_faultsOf_201 ?_
        refine J_iload_n C dX10_faultsOf_204 rfl 2 rfl ?_
        obtain ⟨b68, b69, h⟩ := h
        refine J_iald C (dmM hs kc286 (by decide)) (n := 16) (clE_k E s kc286) (by decide) b68 b69 dX10_faultsOf_205 (fun g70 => ?_)
        refine J_V C (ct_X10_isTooWide hs g70 h) ck_X10_isTooWide wm_X10_129 win_X10_isTooWide wsel_X10_isTooWide (dmM hs kc279 (by decide)) (clE_k E s kc279) rfl ⟨rfl, rfl⟩ (by decide) (by decide) (As := [.int (jI (gI s 286 x1))]) (rest := [.int (jI x4_172)]) rfl rfl (Nat.le_of_ble_eq_true rfl) dX10_faultsOf_206 (J_pZ (fun v71 g73 h => ?_))
        refine J_if_eq C (rg_z g73) (tgt := 217) dX10_faultsOf_209 (by decide) (fun q75 => ?_) (fun q75 => ?_)
        · replace h := h.1 q75
          exact J_sub [1, 2] rfl (j217 _ _ h g1 g4_172)
        · replace h := h.2 q75
          exact J_sub [1, 2] rfl (j212 _ _ h g1 g4_172)
  have j165 : ∀ (x1 : Int) (t0 : Int), wj_X10_faultsOf_165   x1 t0 s Q → rgI x1 → rgI t0 → JJ F E 0 0 s 165 [(0, .ref (adE E 279)), (1, .int (jI x1))] [.int (jI t0)] := by
    intro x1 t0 h g1 gt0
    refine J_bipush C dX10_faultsOf_165 (by decide) ?_
    refine J_goto C (tgt := 171) dX10_faultsOf_167 (by decide) ?_
    exact J_sub [0, 1] rfl (j171 _ _ _ h g1 (rgN 8 (by decide)) gt0)
  have j134 : ∀ (x1 : Int) (t0 : Int) (t1 : Int), wj_X10_faultsOf_134   x1 t0 t1 s Q → rgI x1 → rgI t0 → rgI t1 → JJ F E 0 0 s 134 [(0, .ref (adE E 279)), (1, .int (jI x1))] [.int (jI t0), .int (jI t1)] := by
    intro x1 t0 t1 h g1 gt0 gt1
    refine J_iadd C dX10_faultsOf_134 ?_
    obtain ⟨x4_135, e38⟩ : ∃ v : Int, v = (t1 + t0) := ⟨_, rfl⟩
    obtain ⟨g4_135, h⟩ := h x4_135 e38
    refine J_top e38 ?_
    refine J_istore C dX10_faultsOf_135 (by decide) (lv' := [(4, .int (jI x4_135)), (0, .ref (adE E 279)), (1, .int (jI x1))]) rfl ?_
    refine J_iload C dX10_faultsOf_137 0 rfl ?_
    refine J_aload_n C dX10_faultsOf_139 rfl 1 rfl ?_
    refine J_aload_n C dX10_faultsOf_140 rfl 1 rfl ?_
    refine gf_X10_begins C hs wf_X10_16 dX10_faultsOf_141 ?_
    refine J_iload_n C dX10_faultsOf_144 rfl 2 rfl ?_
    obtain ⟨b39, b40, h⟩ := h
    refine J_iald C (dmM hs kc282 (by decide)) (n := 16) (clE_k E s kc282) (by decide) b39 b40 dX10_faultsOf_145 (fun g41 => ?_)
    refine J_V C (ct_X10_isOff hs g41 h) ck_X10_isOff wm_X10_126 win_X10_isOff wsel_X10_isOff (dmM hs kc279 (by decide)) (clE_k E s kc279) rfl ⟨rfl, rfl⟩ (by decide) (by decide) (As := [.int (jI (gI s 282 x1))]) (rest := [.int (jI x4_135)]) rfl rfl (Nat.le_of_ble_eq_true rfl) dX10_faultsOf_146 (J_pZ (fun v42 g44 h => ?_))
    refine J_if_ne C (rg_z g44) (tgt := 165) dX10_faultsOf_149 (by decide) (fun q86 => ?_) (fun q86 => ?_)
    · replace h := h.2 q86
      exact J_sub [1, 2] rfl (j165 _ _ h g1 g4_135)
    · replace h := h.1 q86
      refine J_aload_n C dX10_faultsOf_152 rfl 1 rfl ?_
      refine J_aload_n C dX10_faultsOf_153 rfl 1 rfl ?_
      refine gf_X10_ends C hs wf_X10_19 dX10_faultsOf_154 ?_
      refine J_iload_n C dX10_faultsOf_157 rfl 2 rfl ?_
      obtain ⟨b78, b79, h⟩ := h
      refine J_iald C (dmM hs kc283 (by decide)) (n := 16) (clE_k E s kc283) (by decide) b78 b79 dX10_faultsOf_158 (fun g80 => ?_)
      refine J_V C (ct_X10_isOff hs g80 h) ck_X10_isOff wm_X10_126 win_X10_isOff wsel_X10_isOff (dmM hs kc279 (by decide)) (clE_k E s kc279) rfl ⟨rfl, rfl⟩ (by decide) (by decide) (As := [.int (jI (gI s 283 x1))]) (rest := [.int (jI x4_135)]) rfl rfl (Nat.le_of_ble_eq_true rfl) dX10_faultsOf_159 (J_pZ (fun v81 g83 h => ?_))
      refine J_if_eq C (rg_z g83) (tgt := 170) dX10_faultsOf_162 (by decide) (fun q85 => ?_) (fun q85 => ?_)
      · replace h := h.1 q85
        refine J_iconst C dX10_faultsOf_170 ?_
        exact J_sub [1, 2] rfl (j171 _ _ _ h g1 (rgN 0 (by decide)) g4_135)
      · replace h := h.2 q85
        exact J_sub [1, 2] rfl (j165 _ _ h g1 g4_135)
  have j120 : ∀ (x1 : Int) (x3 : Int) (t0 : Int) (t1 : Int), wj_X10_faultsOf_120   x1 x3 t0 t1 s Q → rgI x1 → rgI x3 → rgI t0 → rgI t1 → JJ F E 0 0 s 120 [(0, .ref (adE E 279)), (1, .int (jI x1)), (3, .int (jI x3))] [.int (jI t0), .int (jI t1)] := by
    intro x1 x3 t0 t1 h g1 g3 gt0 gt1
    refine J_iadd C dX10_faultsOf_120 ?_
    obtain ⟨x4_121, e37⟩ : ∃ v : Int, v = (t1 + t0) := ⟨_, rfl⟩
    obtain ⟨g4_121, h⟩ := h x4_121 e37
    refine J_top e37 ?_
    refine J_istore C dX10_faultsOf_121 (by decide) (lv' := [(4, .int (jI x4_121)), (0, .ref (adE E 279)), (1, .int (jI x1)), (3, .int (jI x3))]) rfl ?_
    refine J_iload C dX10_faultsOf_123 0 rfl ?_
    refine J_iload_n C dX10_faultsOf_125 rfl 3 rfl ?_
    refine J_if_eq C g3 (tgt := 133) dX10_faultsOf_126 (by decide) (fun q87 => ?_) (fun q87 => ?_)
    · replace h := h.1 q87
      refine J_iconst C dX10_faultsOf_133 ?_
      exact J_sub [1, 2] rfl (j134 _ _ _ h g1 (rgN 0 (by decide)) g4_121)
    · replace h := h.2 q87
      refine J_iconst C dX10_faultsOf_129 ?_
      refine J_goto C (tgt := 134) dX10_faultsOf_130 (by decide) ?_
      exact J_sub [1, 2] rfl (j134 _ _ _ h g1 (rgN 4 (by decide)) g4_121)
  have j119 : ∀ (x1 : Int) (x3 : Int) (t0 : Int), wj_X10_faultsOf_119   x1 x3 t0 s Q → rgI x1 → rgI x3 → rgI t0 → JJ F E 0 0 s 119 [(0, .ref (adE E 279)), (1, .int (jI x1)), (3, .int (jI x3))] [.int (jI t0)] := by
    intro x1 x3 t0 h g1 g3 gt0
    refine J_iconst C dX10_faultsOf_119 ?_
    exact J_sub [0, 1, 2] rfl (j120 _ _ _ _ h g1 g3 (rgN 0 (by decide)) gt0)
  have j84 : ∀ (x1 : Int) (x2 : Int) (x3 : Int) (t0 : Int), wj_X10_faultsOf_84   x1 x2 x3 t0 s Q → rgI x1 → rgI x2 → rgI x3 → rgI t0 → JJ F E 0 0 s 84 [(0, .ref (adE E 279)), (1, .int (jI x1)), (2, .int (jI x2)), (3, .int (jI x3))] [.int (jI t0)] := by
    intro x1 x2 x3 t0 h g1 g2 g3 gt0
    refine J_istore C dX10_faultsOf_84 (by decide) (lv' := [(4, .int (jI t0)), (0, .ref (adE E 279)), (1, .int (jI x1)), (2, .int (jI x2)), (3, .int (jI x3))]) rfl ?_
    refine J_iload C dX10_faultsOf_86 0 rfl ?_
    refine J_iload_n C dX10_faultsOf_88 rfl 3 rfl ?_
    refine J_bipush C dX10_faultsOf_89 (by decide) ?_
    refine J_icmp_eq C g2 (rgN (-9) (by decide)) (tgt := 119) dX10_faultsOf_91 (by decide) (fun q100 => ?_) (fun q100 => ?_)
    · replace h := h.1 q100
      exact J_sub [1, 2, 4] rfl (j119 _ _ _ h g1 g3 gt0)
    · replace h := h.2 q100
      refine J_aload_n C dX10_faultsOf_94 rfl 1 rfl ?_
      refine gf_X10_ends C hs wf_X10_19 dX10_faultsOf_95 ?_
      refine J_iload_n C dX10_faultsOf_98 rfl 2 rfl ?_
      obtain ⟨b88, b89, h⟩ := h
      refine J_iald C (dmM hs kc283 (by decide)) (n := 16) (clE_k E s kc283) (by decide) b88 b89 dX10_faultsOf_99 (fun g90 => ?_)
      refine J_aload_n C dX10_faultsOf_100 rfl 1 rfl ?_
      refine gf_X10_begins C hs wf_X10_16 dX10_faultsOf_101 ?_
      refine J_iload_n C dX10_faultsOf_104 rfl 3 rfl ?_
      obtain ⟨b91, b92, h⟩ := h
      refine J_iald C (dmM hs kc282 (by decide)) (n := 16) (clE_k E s kc282) (by decide) b91 b92 dX10_faultsOf_105 (fun g93 => ?_)
      refine J_aload_n C dX10_faultsOf_106 rfl 1 rfl ?_
      refine J_iconst C dX10_faultsOf_107 ?_
      refine J_V C (ct_X10_setting hs (rgN 2 (by decide)) h) ck_X10_setting wm_X10_105 win_X10_setting wsel_X10_setting (dmM hs kc279 (by decide)) (clE_k E s kc279) rfl ⟨rfl, rfl⟩ (by decide) (by decide) (As := [.int (jI 2)]) (rest := [.int (jI (gI s 282 x2)), .int (jI (gI s 283 x1)), .int (jI t0)]) rfl rfl (Nat.le_of_ble_eq_true rfl) dX10_faultsOf_108 (J_pI (fun v94 g96 h => ?_))
      refine J_isub C dX10_faultsOf_111 ?_
      obtain ⟨g98, h⟩ := h
      refine J_icmp_le C g90 g98 (tgt := 119) dX10_faultsOf_112 (by decide) (fun q99 => ?_) (fun q99 => ?_)
      · replace h := h.1 q99
        exact J_sub [1, 2, 4] rfl (j119 _ _ _ h g1 g3 gt0)
      · replace h := h.2 q99
        refine J_iconst C dX10_faultsOf_115 ?_
        refine J_goto C (tgt := 120) dX10_faultsOf_116 (by decide) ?_
        exact J_sub [1, 2, 4] rfl (j120 _ _ _ _ h g1 g3 (rgN 2 (by decide)) gt0)
  refine J_aload_n C dX10_faultsOf_0 rfl 0 rfl ?_
  refine J_iload_n C dX10_faultsOf_1 rfl 1 rfl ?_
  refine J_V C (ct_X10_nextOf hs g1 h) ck_X10_nextOf wm_X10_120 win_X10_nextOf wsel_X10_nextOf (dmM hs kc279 (by decide)) (clE_k E s kc279) rfl ⟨rfl, rfl⟩ (by decide) (by decide) (As := [.int (jI x1)]) (rest := []) rfl rfl (Nat.le_of_ble_eq_true rfl) dX10_faultsOf_2 (J_pI (fun v21 g23 h => ?_))
  refine J_istore_n C dX10_faultsOf_5 rfl (by decide) (lv' := [(2, .int (jI v21)), (0, .ref (adE E 279)), (1, .int (jI x1))]) rfl ?_
  refine J_iconst C dX10_faultsOf_6 ?_
  refine J_istore_n C dX10_faultsOf_7 rfl (by decide) (lv' := [(3, .int (jI 0)), (2, .int (jI v21)), (0, .ref (adE E 279)), (1, .int (jI x1))]) rfl ?_
  refine J_iconst C dX10_faultsOf_8 ?_
  refine J_istore C dX10_faultsOf_9 (by decide) (lv' := [(4, .int (jI 0)), (3, .int (jI 0)), (2, .int (jI v21)), (0, .ref (adE E 279)), (1, .int (jI x1))]) rfl ?_
  replace h := h (fun (x3_11 : Int) (x4_11 : Int) => rgI x3_11 → rgI x4_11 → JJ F E 0 0 s 11 [(0, .ref (adE E 279)), (1, .int (jI x1)), (2, .int (jI v21)), (3, .int (jI x3_11)), (4, .int (jI x4_11))] []) (by
    intro x3_11 x4_11 h g3_11 g4_11
    have j51 : ∀ (x4 : Int) (t0 : Int), wj_X10_faultsOf_51 (fun (x3_11 : Int) (x4_11 : Int) => rgI x3_11 → rgI x4_11 → JJ F E 0 0 s 11 [(0, .ref (adE E 279)), (1, .int (jI x1)), (2, .int (jI v21)), (3, .int (jI x3_11)), (4, .int (jI x4_11))] []) x1 v21 x4 t0 s Q → rgI x4 → rgI t0 → JJ F E 0 0 s 51 [(0, .ref (adE E 279)), (1, .int (jI x1)), (2, .int (jI v21)), (4, .int (jI x4))] [.int (jI t0)] := by
      intro x4 t0 h g4 gt0
      refine J_istore_n C dX10_faultsOf_51 rfl (by decide) (lv' := [(3, .int (jI t0)), (0, .ref (adE E 279)), (1, .int (jI x1)), (2, .int (jI v21)), (4, .int (jI x4))]) rfl ?_
      refine J_iinc C dX10_faultsOf_52 4 rfl (by decide) (lv' := [(4, .int (jI (x4 + 1))), (3, .int (jI t0)), (0, .ref (adE E 279)), (1, .int (jI x1)), (2, .int (jI v21))]) rfl ?_
      refine J_goto C (tgt := 11) dX10_faultsOf_55 (by decide) ?_
      obtain ⟨g102, h⟩ := h
      exact J_sub [2, 3, 4, 1, 0] rfl (h gt0 g102)
    have j50 : ∀ (x4 : Int), wj_X10_faultsOf_50 (fun (x3_11 : Int) (x4_11 : Int) => rgI x3_11 → rgI x4_11 → JJ F E 0 0 s 11 [(0, .ref (adE E 279)), (1, .int (jI x1)), (2, .int (jI v21)), (3, .int (jI x3_11)), (4, .int (jI x4_11))] []) x1 v21 x4 s Q → rgI x4 → JJ F E 0 0 s 50 [(0, .ref (adE E 279)), (1, .int (jI x1)), (2, .int (jI v21)), (4, .int (jI x4))] [] := by
      intro x4 h g4
      refine J_iconst C dX10_faultsOf_50 ?_
      exact J_sub [0, 1, 2, 3] rfl (j51 _ _ h g4 (rgN 0 (by decide)))
    have j46 : ∀ (x4 : Int), wj_X10_faultsOf_46 (fun (x3_11 : Int) (x4_11 : Int) => rgI x3_11 → rgI x4_11 → JJ F E 0 0 s 11 [(0, .ref (adE E 279)), (1, .int (jI x1)), (2, .int (jI v21)), (3, .int (jI x3_11)), (4, .int (jI x4_11))] []) x1 v21 x4 s Q → rgI x4 → JJ F E 0 0 s 46 [(0, .ref (adE E 279)), (1, .int (jI x1)), (2, .int (jI v21)), (4, .int (jI x4))] [] := by
      intro x4 h g4
      refine J_iconst C dX10_faultsOf_46 ?_
      refine J_goto C (tgt := 51) dX10_faultsOf_47 (by decide) ?_
      exact J_sub [0, 1, 2, 3] rfl (j51 _ _ h g4 (rgN 1 (by decide)))
    refine J_iload C dX10_faultsOf_11 4 rfl ?_
    refine J_aload_n C dX10_faultsOf_13 rfl 0 rfl ?_
    refine gf_X10_many C hs wf_X10_84 dX10_faultsOf_14 (fun g25 => ?_)
    refine J_icmp_ge C g4_11 g25 (tgt := 58) dX10_faultsOf_17 (by decide) (fun q112 => ?_) (fun q112 => ?_)
    · replace h := h.1 q112
      refine J_aload_n C dX10_faultsOf_58 rfl 0 rfl ?_
      refine gf_X10_ends C hs wf_X10_19 dX10_faultsOf_59 ?_
      refine J_iload_n C dX10_faultsOf_62 rfl 1 rfl ?_
      obtain ⟨b26, b27, h⟩ := h
      refine J_iald C (dmM hs kc283 (by decide)) (n := 16) (clE_k E s kc283) (by decide) b26 b27 dX10_faultsOf_63 (fun g28 => ?_)
      refine J_aload_n C dX10_faultsOf_64 rfl 0 rfl ?_
      refine gf_X10_begins C hs wf_X10_16 dX10_faultsOf_65 ?_
      refine J_iload_n C dX10_faultsOf_68 rfl 1 rfl ?_
      obtain ⟨b29, b30, h⟩ := h
      refine J_iald C (dmM hs kc282 (by decide)) (n := 16) (clE_k E s kc282) (by decide) b29 b30 dX10_faultsOf_69 (fun g31 => ?_)
      refine J_isub C dX10_faultsOf_70 ?_
      refine J_aload_n C dX10_faultsOf_71 rfl 0 rfl ?_
      refine J_iload_n C dX10_faultsOf_72 rfl 1 rfl ?_
      refine J_V C (ct_X10_readingOf hs g1 h) ck_X10_readingOf wm_X10_123 win_X10_readingOf wsel_X10_readingOf (dmM hs kc279 (by decide)) (clE_k E s kc279) rfl ⟨rfl, rfl⟩ (by decide) (by decide) (As := [.int (jI x1)]) (rest := [.int (jI ((gI s 283 x1) - (gI s 282 x1)))]) rfl rfl (Nat.le_of_ble_eq_true rfl) dX10_faultsOf_73 (J_pI (fun v32 g34 h => ?_))
      obtain ⟨g36, h⟩ := h
      refine J_icmp_ge C g36 g34 (tgt := 83) dX10_faultsOf_76 (by decide) (fun q101 => ?_) (fun q101 => ?_)
      · replace h := h.1 q101
        refine J_iconst C dX10_faultsOf_83 ?_
        exact J_sub [0, 1, 2, 3] rfl (j84 _ _ _ _ h g1 g23 g3_11 (rgN 0 (by decide)))
      · replace h := h.2 q101
        refine J_iconst C dX10_faultsOf_79 ?_
        refine J_goto C (tgt := 84) dX10_faultsOf_80 (by decide) ?_
        exact J_sub [0, 1, 2, 3] rfl (j84 _ _ _ _ h g1 g23 g3_11 (rgN 1 (by decide)))
    · replace h := h.2 q112
      refine J_iload_n C dX10_faultsOf_20 rfl 3 rfl ?_
      refine J_if_ne C g3_11 (tgt := 46) dX10_faultsOf_21 (by decide) (fun q111 => ?_) (fun q111 => ?_)
      · replace h := h.2 q111
        exact J_sub [0, 1, 2, 4] rfl (j46 _ h g4_11)
      · replace h := h.1 q111
        refine J_iload C dX10_faultsOf_24 4 rfl ?_
        refine J_iload_n C dX10_faultsOf_26 rfl 1 rfl ?_
        refine J_icmp_eq C g4_11 g1 (tgt := 50) dX10_faultsOf_27 (by decide) (fun q110 => ?_) (fun q110 => ?_)
        · replace h := h.1 q110
          exact J_sub [0, 1, 2, 4] rfl (j50 _ h g4_11)
        · replace h := h.2 q110
          refine J_aload_n C dX10_faultsOf_30 rfl 0 rfl ?_
          refine gf_X10_begins C hs wf_X10_16 dX10_faultsOf_31 ?_
          refine J_iload C dX10_faultsOf_34 4 rfl ?_
          obtain ⟨b103, b104, h⟩ := h
          refine J_iald C (dmM hs kc282 (by decide)) (n := 16) (clE_k E s kc282) (by decide) b103 b104 dX10_faultsOf_36 (fun g105 => ?_)
          refine J_aload_n C dX10_faultsOf_37 rfl 0 rfl ?_
          refine gf_X10_begins C hs wf_X10_16 dX10_faultsOf_38 ?_
          refine J_iload_n C dX10_faultsOf_41 rfl 1 rfl ?_
          obtain ⟨b106, b107, h⟩ := h
          refine J_iald C (dmM hs kc282 (by decide)) (n := 16) (clE_k E s kc282) (by decide) b106 b107 dX10_faultsOf_42 (fun g108 => ?_)
          refine J_icmp_ne C g105 g108 (tgt := 50) dX10_faultsOf_43 (by decide) (fun q109 => ?_) (fun q109 => ?_)
          · replace h := h.2 q109
            exact J_sub [0, 1, 2, 4] rfl (j50 _ h g4_11)
          · replace h := h.1 q109
            exact J_sub [0, 1, 2, 4] rfl (j46 _ h g4_11)
  )
  exact J_sub [3, 4, 2, 1, 0] rfl (h (rgN 0 (by decide)) (rgN 0 (by decide)))
