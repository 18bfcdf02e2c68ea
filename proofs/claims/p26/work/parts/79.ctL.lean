/-! the law: contracts (printed by wip/p26/gen/emit26.py) -/
set_option maxHeartbeats 4000000 in
set_option maxRecDepth 100000 in
theorem ct_L_cell {l : Launch} {E : ET} (hs : eS E = true) {s : Sg} {sl : Int} {sx : Int → Int} (hsl : sl = scL E) (hsx : sx = scX E) {x1 : Int} (g1 : rgI x1) {Q : Int → Prop} (h : wp_L_cell sl sx x1 s Q) : MetE l E yL_cell cL_cell 2 (some .int) rm_L_cell s [.ref (ea E 9), .int (jI x1)] (qI (fun r t => Q r ∧ t = s) (gN s)) := by
  refine MetJ (by decide +kernel) (Nat.le_of_ble_eq_true rfl) ?_
  intro F hl C hF
  subst hl
  show JJ F E 0 0 s 0 [(0, .ref (ea E 9)), (1, .int (jI x1))] []
  refine J_iload_n C dL_cell_0 rfl 1 rfl ?_
  refine J_aload_n C dL_cell_1 rfl 0 rfl ?_
  refine J_scl C hsl dL_cell_2 (fun g21 => ?_)
  refine J_icmp_ge C g1 g21 (tgt := 12) dL_cell_3 (by decide) (fun q25 => ?_) (fun q25 => ?_)
  · replace h := h.1 q25
    refine J_ldcI C dL_cell_12 wci_L_7 ?_
    refine J_iload_n C dL_cell_14 rfl 1 rfl ?_
    refine J_imul C dL_cell_15 ?_
    refine J_sipush C dL_cell_16 (by decide) ?_
    refine J_iadd C dL_cell_19 ?_
    refine J_ldcI C dL_cell_20 wci_L_8 ?_
    refine J_iand C dL_cell_22 ?_
    exact J_iret C (Nat.zero_le _) (Nat.zero_le _) dL_cell_23 (by rw [hF]; exact ⟨_, rfl, (rg_and _ _), ⟨h, rfl⟩, rfl⟩)
  · replace h := h.2 q25
    refine J_aload_n C dL_cell_6 rfl 0 rfl ?_
    refine J_iload_n C dL_cell_7 rfl 1 rfl ?_
    obtain ⟨b22, b23, h⟩ := h
    refine J_sca C hsl hsx b22 b23 dL_cell_8 (fun g24 => ?_)
    refine J_goto C (tgt := 20) dL_cell_9 (by decide) ?_
    refine J_ldcI C dL_cell_20 wci_L_8 ?_
    refine J_iand C dL_cell_22 ?_
    exact J_iret C (Nat.zero_le _) (Nat.zero_le _) dL_cell_23 (by rw [hF]; exact ⟨_, rfl, (rg_and _ _), ⟨h, rfl⟩, rfl⟩)
set_option maxHeartbeats 4000000 in
set_option maxRecDepth 100000 in
theorem ct_L_writes {l : Launch} {E : ET} (hs : eS E = true) {s : Sg} {x1 : Int} (g1 : rgI x1) {Q : Int → Sg → Prop} (h : wp_L_writes x1 s Q) : MetE l E yL_writes cL_writes 7 (some .boolean) rm_L_writes s [.ref (adE E 0), .int (jI x1)] (qZ Q (gN s)) := by
  refine MetJ (by decide +kernel) (Nat.le_of_ble_eq_true rfl) ?_
  intro F hl C hF
  subst hl
  show JJ F E 0 0 s 0 [(0, .ref (adE E 0)), (1, .int (jI x1))] []
  have j12 : ∀ (x1 : Int) (t0_12 : Int) (sj : Sg), wj_L_writes_12   x1 t0_12 sj Q → rgI x1 → rgI t0_12 → gN sj = gN s → JJ F E 0 0 sj 12 [(0, .ref (adE E 0)), (1, .int (jI x1))] [.int (jI t0_12)] := by
    intro x1 t0_12 sj h g1 gt0_12 nj
    refine J_istore_n C dL_writes_12 rfl (by decide) (lv' := [(2, .int (jI t0_12)), (0, .ref (adE E 0)), (1, .int (jI x1))]) rfl ?_
    refine J_iconst C dL_writes_13 ?_
    refine J_iload_n C dL_writes_14 rfl 2 rfl ?_
    refine J_bipush C dL_writes_15 (by decide) ?_
    refine J_irem C g1 (rgN 6 (by decide)) (by decide) dL_writes_17 ?_
    refine J_iadd C dL_writes_18 ?_
    obtain ⟨x3_19, e26⟩ : ∃ v : Int, v = (1 + (Int.tmod x1 6)) := ⟨_, rfl⟩
    obtain ⟨g3_19, h⟩ := h x3_19 e26
    refine J_top e26 ?_
    refine J_istore_n C dL_writes_19 rfl (by decide) (lv' := [(3, .int (jI x3_19)), (2, .int (jI t0_12)), (0, .ref (adE E 0)), (1, .int (jI x1))]) rfl ?_
    refine J_iconst C dL_writes_20 ?_
    refine J_istore C dL_writes_21 (by decide) (lv' := [(4, .int (jI 0)), (3, .int (jI x3_19)), (2, .int (jI t0_12)), (0, .ref (adE E 0)), (1, .int (jI x1))]) rfl ?_
    replace h := h (fun (x2_23 : Int) (x4_23 : Int) (sL23 : Sg) => rgI x2_23 → rgI x4_23 → gN sL23 = gN s → JJ F E 0 0 sL23 23 [(0, .ref (adE E 0)), (1, .int (jI x1)), (2, .int (jI x2_23)), (3, .int (jI x3_19)), (4, .int (jI x4_23))] []) (by
      intro x2_23 x4_23 sL23 h g2_23 g4_23 nL23
      have j158 : ∀ (x4 : Int) (t0_158 : Int) (sj : Sg), wj_L_writes_158 (fun (x2_23 : Int) (x4_23 : Int) (sL23 : Sg) => rgI x2_23 → rgI x4_23 → gN sL23 = gN s → JJ F E 0 0 sL23 23 [(0, .ref (adE E 0)), (1, .int (jI x1)), (2, .int (jI x2_23)), (3, .int (jI x3_19)), (4, .int (jI x4_23))] []) x1 x3_19 x4 t0_158 sj Q → rgI x4 → rgI t0_158 → gN sj = gN s → JJ F E 0 0 sj 158 [(0, .ref (adE E 0)), (1, .int (jI x1)), (3, .int (jI x3_19)), (4, .int (jI x4))] [.int (jI t0_158)] := by
        intro x4 t0_158 sj h g4 gt0_158 nj
        refine J_istore_n C dL_writes_158 rfl (by decide) (lv' := [(2, .int (jI t0_158)), (0, .ref (adE E 0)), (1, .int (jI x1)), (3, .int (jI x3_19)), (4, .int (jI x4))]) rfl ?_
        refine J_iinc C dL_writes_159 4 rfl (by decide) (lv' := [(4, .int (jI (x4 + 1))), (2, .int (jI t0_158)), (0, .ref (adE E 0)), (1, .int (jI x1)), (3, .int (jI x3_19))]) rfl ?_
        refine J_goto C (tgt := 23) dL_writes_162 (by decide) ?_
        obtain ⟨g29, h⟩ := h
        exact J_sub [2, 3, 1, 4, 0] rfl (h gt0_158 g29 nj)
      have j157 : ∀ (x4 : Int) (sj : Sg), wj_L_writes_157 (fun (x2_23 : Int) (x4_23 : Int) (sL23 : Sg) => rgI x2_23 → rgI x4_23 → gN sL23 = gN s → JJ F E 0 0 sL23 23 [(0, .ref (adE E 0)), (1, .int (jI x1)), (2, .int (jI x2_23)), (3, .int (jI x3_19)), (4, .int (jI x4_23))] []) x1 x3_19 x4 sj Q → rgI x4 → gN sj = gN s → JJ F E 0 0 sj 157 [(0, .ref (adE E 0)), (1, .int (jI x1)), (3, .int (jI x3_19)), (4, .int (jI x4))] [] := by
        intro x4 sj h g4 nj
        refine J_iconst C dL_writes_157 ?_
        exact J_sub [0, 1, 2, 3] rfl (j158 _ _ _ h g4 (rgN 0 (by decide)) nj)
      have j153 : ∀ (x4 : Int) (sj : Sg), wj_L_writes_153 (fun (x2_23 : Int) (x4_23 : Int) (sL23 : Sg) => rgI x2_23 → rgI x4_23 → gN sL23 = gN s → JJ F E 0 0 sL23 23 [(0, .ref (adE E 0)), (1, .int (jI x1)), (2, .int (jI x2_23)), (3, .int (jI x3_19)), (4, .int (jI x4_23))] []) x1 x3_19 x4 sj Q → rgI x4 → gN sj = gN s → JJ F E 0 0 sj 153 [(0, .ref (adE E 0)), (1, .int (jI x1)), (3, .int (jI x3_19)), (4, .int (jI x4))] [] := by
        intro x4 sj h g4 nj
        refine J_iconst C dL_writes_153 ?_
        refine J_goto C (tgt := 158) dL_writes_154 (by decide) ?_
        exact J_sub [0, 1, 2, 3] rfl (j158 _ _ _ h g4 (rgN 1 (by decide)) nj)
      have j147 : ∀ (x4 : Int) (t0_147 : Int) (sj : Sg), wj_L_writes_147 (fun (x2_23 : Int) (x4_23 : Int) (sL23 : Sg) => rgI x2_23 → rgI x4_23 → gN sL23 = gN s → JJ F E 0 0 sL23 23 [(0, .ref (adE E 0)), (1, .int (jI x1)), (2, .int (jI x2_23)), (3, .int (jI x3_19)), (4, .int (jI x4_23))] []) x1 x3_19 x4 t0_147 sj Q → rgI x4 → rgI t0_147 → gN sj = gN s → JJ F E 0 0 sj 147 [(0, .ref (adE E 0)), (1, .int (jI x1)), (3, .int (jI x3_19)), (4, .int (jI x4))] [.int (jI t0_147), .ref (adE E 0)] := by
        intro x4 t0_147 sj h g4 gt0_147 nj
        refine J_V C (ct_X9_type hs gt0_147 h) ck_X9_type wm_L_43 win_X9_type wsel_X9_type (dmC hs kc0 (by decide)) (clE_k E sj kc0) rfl ⟨rfl, rfl⟩ (by decide) (by decide) (As := [.int (jI t0_147)]) (rest := []) rfl rfl (Nat.le_of_ble_eq_true rfl) dL_writes_147 (J_kI (fun v30 s31 g32 h n33 => ?_))
        have n34 : gN s31 = gN s := n33.trans (nj)
        refine J_if_le C g32 (tgt := 157) dL_writes_150 (by decide) (fun q35 => ?_) (fun q35 => ?_)
        · replace h := h.1 q35
          exact J_sub [0, 1, 2, 3] rfl (j157 _ _ h g4 n34)
        · replace h := h.2 q35
          exact J_sub [0, 1, 2, 3] rfl (j153 _ _ h g4 n34)
      have j66 : ∀ (x4 : Int) (x5 : Int) (t0_66 : Int) (sj : Sg), wj_L_writes_66 (fun (x2_23 : Int) (x4_23 : Int) (sL23 : Sg) => rgI x2_23 → rgI x4_23 → gN sL23 = gN s → JJ F E 0 0 sL23 23 [(0, .ref (adE E 0)), (1, .int (jI x1)), (2, .int (jI x2_23)), (3, .int (jI x3_19)), (4, .int (jI x4_23))] []) x1 x3_19 x4 x5 t0_66 sj Q → rgI x4 → rgI x5 → rgI t0_66 → gN sj = gN s → JJ F E 0 0 sj 66 [(0, .ref (adE E 0)), (1, .int (jI x1)), (3, .int (jI x3_19)), (4, .int (jI x4)), (5, .int (jI x5))] [.int (jI t0_66)] := by
        intro x4 x5 t0_66 sj h g4 g5 gt0_66 nj
        refine J_istore_n C dL_writes_66 rfl (by decide) (lv' := [(2, .int (jI t0_66)), (0, .ref (adE E 0)), (1, .int (jI x1)), (3, .int (jI x3_19)), (4, .int (jI x4)), (5, .int (jI x5))]) rfl ?_
        refine J_iconst C dL_writes_67 ?_
        refine J_istore C dL_writes_68 (by decide) (lv' := [(6, .int (jI 0)), (2, .int (jI t0_66)), (0, .ref (adE E 0)), (1, .int (jI x1)), (3, .int (jI x3_19)), (4, .int (jI x4)), (5, .int (jI x5))]) rfl ?_
        replace h := h (fun (x2_70 : Int) (x6_70 : Int) (sL70 : Sg) => rgI x2_70 → rgI x6_70 → gN sL70 = gN s → JJ F E 0 0 sL70 70 [(0, .ref (adE E 0)), (1, .int (jI x1)), (2, .int (jI x2_70)), (3, .int (jI x3_19)), (4, .int (jI x4)), (5, .int (jI x5)), (6, .int (jI x6_70))] []) (by
          intro x2_70 x6_70 sL70 h g2_70 g6_70 nL70
          have j108 : ∀ (x6 : Int) (t0_108 : Int) (sj : Sg), wj_L_writes_108 (fun (x2_23 : Int) (x4_23 : Int) (sL23 : Sg) => rgI x2_23 → rgI x4_23 → gN sL23 = gN s → JJ F E 0 0 sL23 23 [(0, .ref (adE E 0)), (1, .int (jI x1)), (2, .int (jI x2_23)), (3, .int (jI x3_19)), (4, .int (jI x4_23))] []) (fun (x2_70 : Int) (x6_70 : Int) (sL70 : Sg) => rgI x2_70 → rgI x6_70 → gN sL70 = gN s → JJ F E 0 0 sL70 70 [(0, .ref (adE E 0)), (1, .int (jI x1)), (2, .int (jI x2_70)), (3, .int (jI x3_19)), (4, .int (jI x4)), (5, .int (jI x5)), (6, .int (jI x6_70))] []) x1 x3_19 x4 x5 x6 t0_108 sj Q → rgI x6 → rgI t0_108 → gN sj = gN s → JJ F E 0 0 sj 108 [(0, .ref (adE E 0)), (1, .int (jI x1)), (3, .int (jI x3_19)), (4, .int (jI x4)), (5, .int (jI x5)), (6, .int (jI x6))] [.int (jI t0_108)] := by
            intro x6 t0_108 sj h g6 gt0_108 nj
            refine J_istore_n C dL_writes_108 rfl (by decide) (lv' := [(2, .int (jI t0_108)), (0, .ref (adE E 0)), (1, .int (jI x1)), (3, .int (jI x3_19)), (4, .int (jI x4)), (5, .int (jI x5)), (6, .int (jI x6))]) rfl ?_
            refine J_iinc C dL_writes_109 6 rfl (by decide) (lv' := [(6, .int (jI (x6 + 1))), (2, .int (jI t0_108)), (0, .ref (adE E 0)), (1, .int (jI x1)), (3, .int (jI x3_19)), (4, .int (jI x4)), (5, .int (jI x5))]) rfl ?_
            refine J_goto C (tgt := 70) dL_writes_112 (by decide) ?_
            obtain ⟨g39, h⟩ := h
            exact J_sub [2, 3, 1, 4, 5, 6, 0] rfl (h gt0_108 g39 nj)
          have j107 : ∀ (x6 : Int) (sj : Sg), wj_L_writes_107 (fun (x2_23 : Int) (x4_23 : Int) (sL23 : Sg) => rgI x2_23 → rgI x4_23 → gN sL23 = gN s → JJ F E 0 0 sL23 23 [(0, .ref (adE E 0)), (1, .int (jI x1)), (2, .int (jI x2_23)), (3, .int (jI x3_19)), (4, .int (jI x4_23))] []) (fun (x2_70 : Int) (x6_70 : Int) (sL70 : Sg) => rgI x2_70 → rgI x6_70 → gN sL70 = gN s → JJ F E 0 0 sL70 70 [(0, .ref (adE E 0)), (1, .int (jI x1)), (2, .int (jI x2_70)), (3, .int (jI x3_19)), (4, .int (jI x4)), (5, .int (jI x5)), (6, .int (jI x6_70))] []) x1 x3_19 x4 x5 x6 sj Q → rgI x6 → gN sj = gN s → JJ F E 0 0 sj 107 [(0, .ref (adE E 0)), (1, .int (jI x1)), (3, .int (jI x3_19)), (4, .int (jI x4)), (5, .int (jI x5)), (6, .int (jI x6))] [] := by
            intro x6 sj h g6 nj
            refine J_iconst C dL_writes_107 ?_
            exact J_sub [0, 1, 2, 3, 4, 5] rfl (j108 _ _ _ h g6 (rgN 0 (by decide)) nj)
          refine J_iload C dL_writes_70 6 rfl ?_
          refine J_iload C dL_writes_72 5 rfl ?_
          refine J_icmp_ge C g6_70 g5 (tgt := 115) dL_writes_74 (by decide) (fun q48 => ?_) (fun q48 => ?_)
          · replace h := h.1 q48
            refine J_iload_n C dL_writes_115 rfl 2 rfl ?_
            refine J_if_eq C g2_70 (tgt := 157) dL_writes_116 (by decide) (fun q38 => ?_) (fun q38 => ?_)
            · replace h := h.1 q38
              exact J_sub [0, 1, 3, 4] rfl (j157 _ _ h g4 nL70)
            · replace h := h.2 q38
              refine J_iload_n C dL_writes_119 rfl 1 rfl ?_
              refine J_bipush C dL_writes_120 (by decide) ?_
              refine J_iload C dL_writes_122 4 rfl ?_
              refine J_iadd C dL_writes_124 ?_
              refine J_ishr C dL_writes_125 ?_
              refine J_iconst C dL_writes_126 ?_
              refine J_iand C dL_writes_127 ?_
              refine J_if_eq C (rg_and _ _) (tgt := 153) dL_writes_128 (by decide) (fun q37 => ?_) (fun q37 => ?_)
              · replace h := h.1 q37
                exact J_sub [0, 1, 3, 4] rfl (j153 _ _ h g4 nL70)
              · replace h := h.2 q37
                refine J_aload_n C dL_writes_131 rfl 0 rfl ?_
                refine J_iload_n C dL_writes_132 rfl 1 rfl ?_
                refine J_iconst C dL_writes_133 ?_
                refine J_ishr C dL_writes_134 ?_
                refine J_iconst C dL_writes_135 ?_
                refine J_iand C dL_writes_136 ?_
                refine J_if_ne C (rg_and _ _) (tgt := 145) dL_writes_137 (by decide) (fun q36 => ?_) (fun q36 => ?_)
                · replace h := h.2 q36
                  refine J_bipush C dL_writes_145 (by decide) ?_
                  exact J_sub [0, 1, 3, 4] rfl (j147 _ _ _ h g4 (rgN 46 (by decide)) nL70)
                · replace h := h.1 q36
                  refine J_bipush C dL_writes_140 (by decide) ?_
                  refine J_goto C (tgt := 147) dL_writes_142 (by decide) ?_
                  exact J_sub [0, 1, 3, 4] rfl (j147 _ _ _ h g4 (rgN 44 (by decide)) nL70)
          · replace h := h.2 q48
            refine J_iload_n C dL_writes_77 rfl 2 rfl ?_
            refine J_if_eq C g2_70 (tgt := 107) dL_writes_78 (by decide) (fun q47 => ?_) (fun q47 => ?_)
            · replace h := h.1 q47
              exact J_sub [0, 1, 3, 4, 5, 6] rfl (j107 _ _ h g6_70 nL70)
            · replace h := h.2 q47
              refine J_aload_n C dL_writes_81 rfl 0 rfl ?_
              refine J_bipush C dL_writes_82 (by decide) ?_
              refine J_iload_n C dL_writes_84 rfl 1 rfl ?_
              refine J_iconst C dL_writes_85 ?_
              refine J_iload C dL_writes_86 4 rfl ?_
              refine J_imul C dL_writes_88 ?_
              refine J_iload C dL_writes_89 6 rfl ?_
              refine J_iadd C dL_writes_91 ?_
              refine J_ishr C dL_writes_92 ?_
              refine J_bipush C dL_writes_93 (by decide) ?_
              refine J_iand C dL_writes_95 ?_
              refine J_iadd C dL_writes_96 ?_
              obtain ⟨g40, h⟩ := h
              refine J_V C (ct_X9_type hs g40 h) ck_X9_type wm_L_43 win_X9_type wsel_X9_type (dmC hs kc0 (by decide)) (clE_k E sL70 kc0) rfl ⟨rfl, rfl⟩ (by decide) (by decide) (As := [.int (jI (97 + (jAnd (jShr x1 ((2 * x4) + x6_70)) 7)))]) (rest := []) rfl rfl (Nat.le_of_ble_eq_true rfl) dL_writes_97 (J_kI (fun v41 s42 g43 h n44 => ?_))
              have n45 : gN s42 = gN s := n44.trans (nL70)
              refine J_if_le C g43 (tgt := 107) dL_writes_100 (by decide) (fun q46 => ?_) (fun q46 => ?_)
              · replace h := h.1 q46
                exact J_sub [0, 1, 3, 4, 5, 6] rfl (j107 _ _ h g6_70 n45)
              · replace h := h.2 q46
                refine J_iconst C dL_writes_103 ?_
                refine J_goto C (tgt := 108) dL_writes_104 (by decide) ?_
                exact J_sub [0, 1, 3, 4, 5, 6] rfl (j108 _ _ _ h g6_70 (rgN 1 (by decide)) n45)
        )
        exact J_sub [2, 3, 1, 4, 5, 6, 0] rfl (h gt0_66 (rgN 0 (by decide)) nj)
      have j65 : ∀ (x4 : Int) (x5 : Int) (sj : Sg), wj_L_writes_65 (fun (x2_23 : Int) (x4_23 : Int) (sL23 : Sg) => rgI x2_23 → rgI x4_23 → gN sL23 = gN s → JJ F E 0 0 sL23 23 [(0, .ref (adE E 0)), (1, .int (jI x1)), (2, .int (jI x2_23)), (3, .int (jI x3_19)), (4, .int (jI x4_23))] []) x1 x3_19 x4 x5 sj Q → rgI x4 → rgI x5 → gN sj = gN s → JJ F E 0 0 sj 65 [(0, .ref (adE E 0)), (1, .int (jI x1)), (3, .int (jI x3_19)), (4, .int (jI x4)), (5, .int (jI x5))] [] := by
        intro x4 x5 sj h g4 g5 nj
        refine J_iconst C dL_writes_65 ?_
        exact J_sub [0, 1, 2, 3, 4] rfl (j66 _ _ _ _ h g4 g5 (rgN 0 (by decide)) nj)
      have j61 : ∀ (x4 : Int) (x5 : Int) (sj : Sg), wj_L_writes_61 (fun (x2_23 : Int) (x4_23 : Int) (sL23 : Sg) => rgI x2_23 → rgI x4_23 → gN sL23 = gN s → JJ F E 0 0 sL23 23 [(0, .ref (adE E 0)), (1, .int (jI x1)), (2, .int (jI x2_23)), (3, .int (jI x3_19)), (4, .int (jI x4_23))] []) x1 x3_19 x4 x5 sj Q → rgI x4 → rgI x5 → gN sj = gN s → JJ F E 0 0 sj 61 [(0, .ref (adE E 0)), (1, .int (jI x1)), (3, .int (jI x3_19)), (4, .int (jI x4)), (5, .int (jI x5))] [] := by
        intro x4 x5 sj h g4 g5 nj
        refine J_iconst C dL_writes_61 ?_
        refine J_goto C (tgt := 66) dL_writes_62 (by decide) ?_
        exact J_sub [0, 1, 2, 3, 4] rfl (j66 _ _ _ _ h g4 g5 (rgN 1 (by decide)) nj)
      refine J_iload C dL_writes_23 4 rfl ?_
      refine J_iload_n C dL_writes_25 rfl 3 rfl ?_
      refine J_icmp_ge C g4_23 g3_19 (tgt := 165) dL_writes_26 (by decide) (fun q57 => ?_) (fun q57 => ?_)
      · replace h := h.1 q57
        refine J_iload_n C dL_writes_165 rfl 2 rfl ?_
        obtain ⟨g27, h⟩ := h
        exact J_zret C (Nat.zero_le _) (Nat.zero_le _) (nar_z g27) dL_writes_166 (by rw [hF]; exact ⟨_, rfl, g27, h, nL23⟩)
      · replace h := h.2 q57
        refine J_iconst C dL_writes_29 ?_
        refine J_iload_n C dL_writes_30 rfl 1 rfl ?_
        refine J_iconst C dL_writes_31 ?_
        refine J_iconst C dL_writes_32 ?_
        refine J_iload C dL_writes_33 4 rfl ?_
        refine J_imul C dL_writes_35 ?_
        refine J_iadd C dL_writes_36 ?_
        refine J_ishr C dL_writes_37 ?_
        refine J_iconst C dL_writes_38 ?_
        refine J_iand C dL_writes_39 ?_
        refine J_iadd C dL_writes_40 ?_
        obtain ⟨x5_41, e28⟩ : ∃ v : Int, v = (1 + (jAnd (jShr x1 (3 + (4 * x4_23))) 3)) := ⟨_, rfl⟩
        obtain ⟨g5_41, h⟩ := h x5_41 e28
        refine J_top e28 ?_
        refine J_istore C dL_writes_41 (by decide) (lv' := [(5, .int (jI x5_41)), (0, .ref (adE E 0)), (1, .int (jI x1)), (2, .int (jI x2_23)), (3, .int (jI x3_19)), (4, .int (jI x4_23))]) rfl ?_
        refine J_iload_n C dL_writes_43 rfl 3 rfl ?_
        refine J_if_eq C g2_23 (tgt := 65) dL_writes_44 (by decide) (fun q56 => ?_) (fun q56 => ?_)
        · replace h := h.1 q56
          exact J_sub [1, 2, 4, 5, 0] rfl (j65 _ _ _ h g4_23 g5_41 nL23)
        · replace h := h.2 q56
          refine J_iload C dL_writes_47 5 rfl ?_
          refine J_if_eq C g4_23 (tgt := 61) dL_writes_49 (by decide) (fun q55 => ?_) (fun q55 => ?_)
          · replace h := h.1 q55
            exact J_sub [1, 2, 4, 5, 0] rfl (j61 _ _ _ h g4_23 g5_41 nL23)
          · replace h := h.2 q55
            refine J_aload_n C dL_writes_52 rfl 1 rfl ?_
            refine J_bipush C dL_writes_53 (by decide) ?_
            refine J_V C (ct_X9_type hs (rgN 32 (by decide)) h) ck_X9_type wm_L_43 win_X9_type wsel_X9_type (dmC hs kc0 (by decide)) (clE_k E sL23 kc0) rfl ⟨rfl, rfl⟩ (by decide) (by decide) (As := [.int (jI 32)]) (rest := []) rfl rfl (Nat.le_of_ble_eq_true rfl) dL_writes_55 (J_kI (fun v49 s50 g51 h n52 => ?_))
            have n53 : gN s50 = gN s := n52.trans (nL23)
            refine J_if_le C g51 (tgt := 65) dL_writes_58 (by decide) (fun q54 => ?_) (fun q54 => ?_)
            · replace h := h.1 q54
              exact J_sub [1, 2, 4, 5, 0] rfl (j65 _ _ _ h g4_23 g5_41 n53)
            · replace h := h.2 q54
              exact J_sub [1, 2, 4, 5, 0] rfl (j61 _ _ _ h g4_23 g5_41 n53)
    )
    exact J_sub [3, 4, 2, 1, 0] rfl (h gt0_12 (rgN 0 (by decide)) nj)
  refine J_aload_n C dL_writes_0 rfl 0 rfl ?_
  refine J_V C (ct_X9_clear hs h) ck_X9_clear wm_L_39 win_X9_clear wsel_X9_clear (dmC hs kc0 (by decide)) (clE_k E s kc0) rfl ⟨rfl, rfl⟩ (by decide) (by decide) (As := []) (rest := []) rfl rfl (Nat.le_of_ble_eq_true rfl) dL_writes_1 (J_kI (fun v21 s22 g23 h n24 => ?_))
  have n25 : gN s22 = gN s := n24
  refine J_if_lt C g23 (tgt := 11) dL_writes_4 (by decide) (fun q58 => ?_) (fun q58 => ?_)
  · replace h := h.1 q58
    refine J_iconst C dL_writes_11 ?_
    exact J_sub [0, 1] rfl (j12 _ _ _ h g1 (rgN 0 (by decide)) n25)
  · replace h := h.2 q58
    refine J_iconst C dL_writes_7 ?_
    refine J_goto C (tgt := 12) dL_writes_8 (by decide) ?_
    exact J_sub [0, 1] rfl (j12 _ _ _ h g1 (rgN 1 (by decide)) n25)
set_option maxHeartbeats 4000000 in
set_option maxRecDepth 100000 in
theorem ct_L_frames {l : Launch} {E : ET} (hs : eS E = true) {s : Sg} {sl : Int} {sx : Int → Int} (hsl : sl = scL E) (hsx : sx = scX E) {Q : Int → Prop} (h : wp_L_frames sl sx s Q) : MetE l E yL_frames cL_frames 11 (some .boolean) rm_L_frames s [.ref (adE E 0), .ref (ea E 9)] (qZ (fun r t => Q r ∧ t = s) (gN s)) := by
  refine MetJ (by decide +kernel) (Nat.le_of_ble_eq_true rfl) ?_
  intro F hl C hF
  subst hl
  show JJ F E 0 0 s 0 [(0, .ref (adE E 0)), (1, .ref (ea E 9))] []
  have j71 : ∀ (x2 : Int) (t0_71 : Int), wj_L_frames_71  sl sx x2 t0_71 s Q → rgI x2 → rgI t0_71 → JJ F E 0 0 s 71 [(0, .ref (adE E 0)), (1, .ref (ea E 9)), (2, .int (jI x2))] [.int (jI t0_71)] := by
    intro x2 t0_71 h g2 gt0_71
    refine J_istore C dL_frames_71 (by decide) (lv' := [(4, .int (jI t0_71)), (0, .ref (adE E 0)), (1, .ref (ea E 9)), (2, .int (jI x2))]) rfl ?_
    refine J_iconst C dL_frames_73 ?_
    refine J_istore C dL_frames_74 (by decide) (lv' := [(5, .int (jI 0)), (4, .int (jI t0_71)), (0, .ref (adE E 0)), (1, .ref (ea E 9)), (2, .int (jI x2))]) rfl ?_
    replace h := h (fun (x4_76 : Int) (x5_76 : Int) => rgI x4_76 → rgI x5_76 → JJ F E 0 0 s 76 [(0, .ref (adE E 0)), (1, .ref (ea E 9)), (2, .int (jI x2)), (4, .int (jI x4_76)), (5, .int (jI x5_76))] []) (by
      intro x4_76 x5_76 h g4_76 g5_76
      have j230 : ∀ (x5 : Int) (t0_230 : Int), wj_L_frames_230 (fun (x4_76 : Int) (x5_76 : Int) => rgI x4_76 → rgI x5_76 → JJ F E 0 0 s 76 [(0, .ref (adE E 0)), (1, .ref (ea E 9)), (2, .int (jI x2)), (4, .int (jI x4_76)), (5, .int (jI x5_76))] []) sl sx x2 x5 t0_230 s Q → rgI x5 → rgI t0_230 → JJ F E 0 0 s 230 [(0, .ref (adE E 0)), (1, .ref (ea E 9)), (2, .int (jI x2)), (5, .int (jI x5))] [.int (jI t0_230)] := by
        intro x5 t0_230 h g5 gt0_230
        refine J_istore C dL_frames_230 (by decide) (lv' := [(4, .int (jI t0_230)), (0, .ref (adE E 0)), (1, .ref (ea E 9)), (2, .int (jI x2)), (5, .int (jI x5))]) rfl ?_
        refine J_iinc C dL_frames_232 4 rfl (by decide) (lv' := [(5, .int (jI (x5 + 1))), (4, .int (jI t0_230)), (0, .ref (adE E 0)), (1, .ref (ea E 9)), (2, .int (jI x2))]) rfl ?_
        refine J_goto C (tgt := 76) dL_frames_235 (by decide) ?_
        obtain ⟨g46, h⟩ := h
        exact J_sub [2, 3, 4, 1, 0] rfl (h gt0_230 g46)
      have j229 : ∀ (x5 : Int), wj_L_frames_229 (fun (x4_76 : Int) (x5_76 : Int) => rgI x4_76 → rgI x5_76 → JJ F E 0 0 s 76 [(0, .ref (adE E 0)), (1, .ref (ea E 9)), (2, .int (jI x2)), (4, .int (jI x4_76)), (5, .int (jI x5_76))] []) sl sx x2 x5 s Q → rgI x5 → JJ F E 0 0 s 229 [(0, .ref (adE E 0)), (1, .ref (ea E 9)), (2, .int (jI x2)), (5, .int (jI x5))] [] := by
        intro x5 h g5
        refine J_iconst C dL_frames_229 ?_
        exact J_sub [0, 1, 2, 3] rfl (j230 _ _ h g5 (rgN 0 (by decide)))
      refine J_iload C dL_frames_76 4 rfl ?_
      refine J_bipush C dL_frames_78 (by decide) ?_
      refine J_icmp_ge C g5_76 (rgN 20 (by decide)) (tgt := 238) dL_frames_80 (by decide) (fun q76 => ?_) (fun q76 => ?_)
      · replace h := h.1 q76
        refine J_iload C dL_frames_238 3 rfl ?_
        obtain ⟨g29, h⟩ := h
        exact J_zret C (Nat.zero_le _) (Nat.zero_le _) (nar_z g29) dL_frames_240 (by rw [hF]; exact ⟨_, rfl, g29, ⟨h, rfl⟩, rfl⟩)
      · replace h := h.2 q76
        refine J_iload_n C dL_frames_83 rfl 2 rfl ?_
        refine J_if_le C g2 (tgt := 238) dL_frames_84 (by decide) (fun q75 => ?_) (fun q75 => ?_)
        · replace h := h.1 q75
          refine J_iload C dL_frames_238 3 rfl ?_
          obtain ⟨g30, h⟩ := h
          exact J_zret C (Nat.zero_le _) (Nat.zero_le _) (nar_z g30) dL_frames_240 (by rw [hF]; exact ⟨_, rfl, g30, ⟨h, rfl⟩, rfl⟩)
        · replace h := h.2 q75
          refine J_aload_n C dL_frames_87 rfl 1 rfl ?_
          refine J_bipush C dL_frames_88 (by decide) ?_
          refine J_iload C dL_frames_90 4 rfl ?_
          refine J_iadd C dL_frames_92 ?_
          obtain ⟨g31, h⟩ := h
          refine J_S C (ct_L_cell hs hsl hsx g31 h) ck_L_cell wm_L_9 wst_L_cell ⟨rfl, rfl⟩ (by decide) (by decide) (As := [.ref (ea E 9), .int (jI (60 + x5_76))]) (rest := []) rfl rfl (Nat.le_of_ble_eq_true rfl) dL_frames_93 (J_pI (fun v32 g34 h => ?_))
          refine J_iload_n C dL_frames_96 rfl 2 rfl ?_
          obtain ⟨d36, h⟩ := h
          refine J_irem C g34 g2 d36 dL_frames_97 ?_
          obtain ⟨x6_98, e37⟩ : ∃ v : Int, v = (Int.tmod v32 x2) := ⟨_, rfl⟩
          obtain ⟨g6_98, h⟩ := h x6_98 e37
          refine J_top e37 ?_
          refine J_istore C dL_frames_98 (by decide) (lv' := [(6, .int (jI x6_98)), (0, .ref (adE E 0)), (1, .ref (ea E 9)), (2, .int (jI x2)), (4, .int (jI x4_76)), (5, .int (jI x5_76))]) rfl ?_
          refine J_aload_n C dL_frames_100 rfl 1 rfl ?_
          refine J_iload C dL_frames_101 0 rfl ?_
          refine J_V C (ct_X9_toOld hs g6_98 h) ck_X9_toOld wm_L_53 win_X9_toOld wsel_X9_toOld (dmC hs kc0 (by decide)) (clE_k E s kc0) rfl ⟨rfl, rfl⟩ (by decide) (by decide) (As := [.int (jI x6_98)]) (rest := []) rfl rfl (Nat.le_of_ble_eq_true rfl) dL_frames_103 (J_pI (fun v38 g40 h => ?_))
          refine J_istore C dL_frames_106 (by decide) (lv' := [(7, .int (jI v38)), (6, .int (jI x6_98)), (0, .ref (adE E 0)), (1, .ref (ea E 9)), (2, .int (jI x2)), (4, .int (jI x4_76)), (5, .int (jI x5_76))]) rfl ?_
          refine J_iconst C dL_frames_108 ?_
          refine J_istore C dL_frames_109 (by decide) (lv' := [(8, .int (jI 0)), (7, .int (jI v38)), (6, .int (jI x6_98)), (0, .ref (adE E 0)), (1, .ref (ea E 9)), (2, .int (jI x2)), (4, .int (jI x4_76)), (5, .int (jI x5_76))]) rfl ?_
          refine J_iconst C dL_frames_111 ?_
          refine J_istore C dL_frames_112 (by decide) (lv' := [(9, .int (jI 0)), (8, .int (jI 0)), (7, .int (jI v38)), (6, .int (jI x6_98)), (0, .ref (adE E 0)), (1, .ref (ea E 9)), (2, .int (jI x2)), (4, .int (jI x4_76)), (5, .int (jI x5_76))]) rfl ?_
          replace h := h (fun (x4_114 : Int) (x8_114 : Int) (x9_114 : Int) => rgI x4_114 → rgI x8_114 → rgI x9_114 → JJ F E 0 0 s 114 [(0, .ref (adE E 0)), (1, .ref (ea E 9)), (2, .int (jI x2)), (4, .int (jI x4_114)), (5, .int (jI x5_76)), (6, .int (jI x6_98)), (7, .int (jI v38)), (8, .int (jI x8_114)), (9, .int (jI x9_114))] []) (by
            intro x4_114 x8_114 x9_114 h g4_114 g8_114 g9_114
            have j197 : ∀ (x4 : Int) (x8 : Int) (t0_197 : Int), wj_L_frames_197 (fun (x4_76 : Int) (x5_76 : Int) => rgI x4_76 → rgI x5_76 → JJ F E 0 0 s 76 [(0, .ref (adE E 0)), (1, .ref (ea E 9)), (2, .int (jI x2)), (4, .int (jI x4_76)), (5, .int (jI x5_76))] []) (fun (x4_114 : Int) (x8_114 : Int) (x9_114 : Int) => rgI x4_114 → rgI x8_114 → rgI x9_114 → JJ F E 0 0 s 114 [(0, .ref (adE E 0)), (1, .ref (ea E 9)), (2, .int (jI x2)), (4, .int (jI x4_114)), (5, .int (jI x5_76)), (6, .int (jI x6_98)), (7, .int (jI v38)), (8, .int (jI x8_114)), (9, .int (jI x9_114))] []) sl sx x2 x5_76 x6_98 v38 x4 x8 t0_197 s Q → rgI x4 → rgI x8 → rgI t0_197 → JJ F E 0 0 s 197 [(0, .ref (adE E 0)), (1, .ref (ea E 9)), (2, .int (jI x2)), (4, .int (jI x4)), (5, .int (jI x5_76)), (6, .int (jI x6_98)), (7, .int (jI v38)), (8, .int (jI x8))] [.int (jI t0_197)] := by
              intro x4 x8 t0_197 h g4 g8 gt0_197
              refine J_istore C dL_frames_197 (by decide) (lv' := [(9, .int (jI t0_197)), (0, .ref (adE E 0)), (1, .ref (ea E 9)), (2, .int (jI x2)), (4, .int (jI x4)), (5, .int (jI x5_76)), (6, .int (jI x6_98)), (7, .int (jI v38)), (8, .int (jI x8))]) rfl ?_
              refine J_iinc C dL_frames_199 8 rfl (by decide) (lv' := [(8, .int (jI (x8 + 1))), (9, .int (jI t0_197)), (0, .ref (adE E 0)), (1, .ref (ea E 9)), (2, .int (jI x2)), (4, .int (jI x4)), (5, .int (jI x5_76)), (6, .int (jI x6_98)), (7, .int (jI v38))]) rfl ?_
              refine J_goto C (tgt := 114) dL_frames_202 (by decide) ?_
              obtain ⟨g58, h⟩ := h
              exact J_sub [2, 3, 4, 5, 6, 7, 8, 0, 1] rfl (h g4 g58 gt0_197)
            have j192 : ∀ (x4 : Int) (x8 : Int), wj_L_frames_192 (fun (x4_76 : Int) (x5_76 : Int) => rgI x4_76 → rgI x5_76 → JJ F E 0 0 s 76 [(0, .ref (adE E 0)), (1, .ref (ea E 9)), (2, .int (jI x2)), (4, .int (jI x4_76)), (5, .int (jI x5_76))] []) (fun (x4_114 : Int) (x8_114 : Int) (x9_114 : Int) => rgI x4_114 → rgI x8_114 → rgI x9_114 → JJ F E 0 0 s 114 [(0, .ref (adE E 0)), (1, .ref (ea E 9)), (2, .int (jI x2)), (4, .int (jI x4_114)), (5, .int (jI x5_76)), (6, .int (jI x6_98)), (7, .int (jI v38)), (8, .int (jI x8_114)), (9, .int (jI x9_114))] []) sl sx x2 x5_76 x6_98 v38 x4 x8 s Q → rgI x4 → rgI x8 → JJ F E 0 0 s 192 [(0, .ref (adE E 0)), (1, .ref (ea E 9)), (2, .int (jI x2)), (4, .int (jI x4)), (5, .int (jI x5_76)), (6, .int (jI x6_98)), (7, .int (jI v38)), (8, .int (jI x8))] [] := by
              intro x4 x8 h g4 g8
              refine J_iconst C dL_frames_192 ?_
              refine J_goto C (tgt := 197) dL_frames_193 (by decide) ?_
              exact J_sub [0, 1, 2, 3, 4, 5, 6, 7] rfl (j197 _ _ _ h g4 g8 (rgN 1 (by decide)))
            have j178 : ∀ (x8 : Int) (x9 : Int) (x10 : Int) (t0_178 : Int), wj_L_frames_178 (fun (x4_76 : Int) (x5_76 : Int) => rgI x4_76 → rgI x5_76 → JJ F E 0 0 s 76 [(0, .ref (adE E 0)), (1, .ref (ea E 9)), (2, .int (jI x2)), (4, .int (jI x4_76)), (5, .int (jI x5_76))] []) (fun (x4_114 : Int) (x8_114 : Int) (x9_114 : Int) => rgI x4_114 → rgI x8_114 → rgI x9_114 → JJ F E 0 0 s 114 [(0, .ref (adE E 0)), (1, .ref (ea E 9)), (2, .int (jI x2)), (4, .int (jI x4_114)), (5, .int (jI x5_76)), (6, .int (jI x6_98)), (7, .int (jI v38)), (8, .int (jI x8_114)), (9, .int (jI x9_114))] []) sl sx x2 x5_76 x6_98 v38 x8 x9 x10 t0_178 s Q → rgI x8 → rgI x9 → rgI x10 → rgI t0_178 → JJ F E 0 0 s 178 [(0, .ref (adE E 0)), (1, .ref (ea E 9)), (2, .int (jI x2)), (5, .int (jI x5_76)), (6, .int (jI x6_98)), (7, .int (jI v38)), (8, .int (jI x8)), (9, .int (jI x9)), (10, .int (jI x10))] [.int (jI t0_178)] := by
              intro x8 x9 x10 t0_178 h g8 g9 g10 gt0_178
              refine J_istore C dL_frames_178 (by decide) (lv' := [(4, .int (jI t0_178)), (0, .ref (adE E 0)), (1, .ref (ea E 9)), (2, .int (jI x2)), (5, .int (jI x5_76)), (6, .int (jI x6_98)), (7, .int (jI v38)), (8, .int (jI x8)), (9, .int (jI x9)), (10, .int (jI x10))]) rfl ?_
              refine J_iload C dL_frames_180 8 rfl ?_
              refine J_if_ne C g9 (tgt := 192) dL_frames_182 (by decide) (fun q60 => ?_) (fun q60 => ?_)
              · replace h := h.2 q60
                exact J_sub [1, 2, 3, 0, 4, 5, 6, 7] rfl (j192 _ _ h gt0_178 g8)
              · replace h := h.1 q60
                refine J_iload C dL_frames_185 9 rfl ?_
                refine J_iload C dL_frames_187 5 rfl ?_
                refine J_icmp_ne C g10 g6_98 (tgt := 196) dL_frames_189 (by decide) (fun q59 => ?_) (fun q59 => ?_)
                · replace h := h.2 q59
                  refine J_iconst C dL_frames_196 ?_
                  exact J_sub [1, 2, 3, 0, 4, 5, 6, 7] rfl (j197 _ _ _ h gt0_178 g8 (rgN 0 (by decide)))
                · replace h := h.1 q59
                  exact J_sub [1, 2, 3, 0, 4, 5, 6, 7] rfl (j192 _ _ h gt0_178 g8)
            have j177 : ∀ (x8 : Int) (x9 : Int) (x10 : Int), wj_L_frames_177 (fun (x4_76 : Int) (x5_76 : Int) => rgI x4_76 → rgI x5_76 → JJ F E 0 0 s 76 [(0, .ref (adE E 0)), (1, .ref (ea E 9)), (2, .int (jI x2)), (4, .int (jI x4_76)), (5, .int (jI x5_76))] []) (fun (x4_114 : Int) (x8_114 : Int) (x9_114 : Int) => rgI x4_114 → rgI x8_114 → rgI x9_114 → JJ F E 0 0 s 114 [(0, .ref (adE E 0)), (1, .ref (ea E 9)), (2, .int (jI x2)), (4, .int (jI x4_114)), (5, .int (jI x5_76)), (6, .int (jI x6_98)), (7, .int (jI v38)), (8, .int (jI x8_114)), (9, .int (jI x9_114))] []) sl sx x2 x5_76 x6_98 v38 x8 x9 x10 s Q → rgI x8 → rgI x9 → rgI x10 → JJ F E 0 0 s 177 [(0, .ref (adE E 0)), (1, .ref (ea E 9)), (2, .int (jI x2)), (5, .int (jI x5_76)), (6, .int (jI x6_98)), (7, .int (jI v38)), (8, .int (jI x8)), (9, .int (jI x9)), (10, .int (jI x10))] [] := by
              intro x8 x9 x10 h g8 g9 g10
              refine J_iconst C dL_frames_177 ?_
              exact J_sub [0, 1, 2, 3, 4, 5, 6, 7, 8] rfl (j178 _ _ _ _ h g8 g9 g10 (rgN 0 (by decide)))
            have j173 : ∀ (x8 : Int) (x9 : Int) (x10 : Int), wj_L_frames_173 (fun (x4_76 : Int) (x5_76 : Int) => rgI x4_76 → rgI x5_76 → JJ F E 0 0 s 76 [(0, .ref (adE E 0)), (1, .ref (ea E 9)), (2, .int (jI x2)), (4, .int (jI x4_76)), (5, .int (jI x5_76))] []) (fun (x4_114 : Int) (x8_114 : Int) (x9_114 : Int) => rgI x4_114 → rgI x8_114 → rgI x9_114 → JJ F E 0 0 s 114 [(0, .ref (adE E 0)), (1, .ref (ea E 9)), (2, .int (jI x2)), (4, .int (jI x4_114)), (5, .int (jI x5_76)), (6, .int (jI x6_98)), (7, .int (jI v38)), (8, .int (jI x8_114)), (9, .int (jI x9_114))] []) sl sx x2 x5_76 x6_98 v38 x8 x9 x10 s Q → rgI x8 → rgI x9 → rgI x10 → JJ F E 0 0 s 173 [(0, .ref (adE E 0)), (1, .ref (ea E 9)), (2, .int (jI x2)), (5, .int (jI x5_76)), (6, .int (jI x6_98)), (7, .int (jI v38)), (8, .int (jI x8)), (9, .int (jI x9)), (10, .int (jI x10))] [] := by
              intro x8 x9 x10 h g8 g9 g10
              refine J_iconst C dL_frames_173 ?_
              refine J_goto C (tgt := 178) dL_frames_174 (by decide) ?_
              exact J_sub [0, 1, 2, 3, 4, 5, 6, 7, 8] rfl (j178 _ _ _ _ h g8 g9 g10 (rgN 1 (by decide)))
            refine J_aload_n C dL_frames_114 rfl 0 rfl ?_
            refine J_iload C dL_frames_115 6 rfl ?_
            refine J_iload C dL_frames_117 7 rfl ?_
            refine J_V C (ct_X9_toNew hs g40 g8_114 h) ck_X9_toNew wm_L_56 win_X9_toNew wsel_X9_toNew (dmC hs kc0 (by decide)) (clE_k E s kc0) rfl ⟨rfl, rfl⟩ (by decide) (by decide) (As := [.int (jI v38), .int (jI x8_114)]) (rest := []) rfl rfl (Nat.le_of_ble_eq_true rfl) dL_frames_119 (J_pI (fun v42 g44 h => ?_))
            refine J_bipush C dL_frames_122 (by decide) ?_
            refine J_icmp_eq C g44 (rgN (-9) (by decide)) (tgt := 205) dL_frames_124 (by decide) (fun q74 => ?_) (fun q74 => ?_)
            · replace h := h.1 q74
              refine J_iload C dL_frames_205 3 rfl ?_
              refine J_if_eq C g4_114 (tgt := 229) dL_frames_207 (by decide) (fun q53 => ?_) (fun q53 => ?_)
              · replace h := h.1 q53
                exact J_sub [0, 1, 2, 4] rfl (j229 _ h g5_76)
              · replace h := h.2 q53
                refine J_iload C dL_frames_210 8 rfl ?_
                refine J_if_eq C g9_114 (tgt := 229) dL_frames_212 (by decide) (fun q52 => ?_) (fun q52 => ?_)
                · replace h := h.1 q52
                  exact J_sub [0, 1, 2, 4] rfl (j229 _ h g5_76)
                · replace h := h.2 q52
                  refine J_iload C dL_frames_215 7 rfl ?_
                  refine J_aload_n C dL_frames_217 rfl 0 rfl ?_
                  refine J_iconst C dL_frames_218 ?_
                  refine J_V C (ct_X9_told hs (rgN 5 (by decide)) h) ck_X9_told wm_L_47 win_X9_told wsel_X9_told (dmC hs kc0 (by decide)) (clE_k E s kc0) rfl ⟨rfl, rfl⟩ (by decide) (by decide) (As := [.int (jI 5)]) (rest := [.int (jI x8_114)]) rfl rfl (Nat.le_of_ble_eq_true rfl) dL_frames_219 (J_pI (fun v47 g49 h => ?_))
                  refine J_icmp_gt C g8_114 g49 (tgt := 229) dL_frames_222 (by decide) (fun q51 => ?_) (fun q51 => ?_)
                  · replace h := h.1 q51
                    exact J_sub [0, 1, 2, 4] rfl (j229 _ h g5_76)
                  · replace h := h.2 q51
                    refine J_iconst C dL_frames_225 ?_
                    refine J_goto C (tgt := 230) dL_frames_226 (by decide) ?_
                    exact J_sub [0, 1, 2, 4] rfl (j230 _ _ h g5_76 (rgN 1 (by decide)))
            · replace h := h.2 q74
              refine J_aload_n C dL_frames_127 rfl 0 rfl ?_
              refine J_iload C dL_frames_128 6 rfl ?_
              refine J_iload C dL_frames_130 7 rfl ?_
              refine J_V C (ct_X9_toNew hs g40 g8_114 h) ck_X9_toNew wm_L_56 win_X9_toNew wsel_X9_toNew (dmC hs kc0 (by decide)) (clE_k E s kc0) rfl ⟨rfl, rfl⟩ (by decide) (by decide) (As := [.int (jI v38), .int (jI x8_114)]) (rest := []) rfl rfl (Nat.le_of_ble_eq_true rfl) dL_frames_132 (J_pI (fun v54 g56 h => ?_))
              refine J_istore C dL_frames_135 (by decide) (lv' := [(10, .int (jI v54)), (0, .ref (adE E 0)), (1, .ref (ea E 9)), (2, .int (jI x2)), (4, .int (jI x4_114)), (5, .int (jI x5_76)), (6, .int (jI x6_98)), (7, .int (jI v38)), (8, .int (jI x8_114)), (9, .int (jI x9_114))]) rfl ?_
              refine J_iload C dL_frames_137 4 rfl ?_
              refine J_if_eq C g4_114 (tgt := 177) dL_frames_139 (by decide) (fun q73 => ?_) (fun q73 => ?_)
              · replace h := h.1 q73
                exact J_sub [1, 2, 3, 5, 6, 7, 8, 9, 0] rfl (j177 _ _ _ h g8_114 g9_114 g56)
              · replace h := h.2 q73
                refine J_aload_n C dL_frames_142 rfl 1 rfl ?_
                refine J_iload C dL_frames_143 0 rfl ?_
                refine J_V C (ct_X9_toOld hs g56 h) ck_X9_toOld wm_L_53 win_X9_toOld wsel_X9_toOld (dmC hs kc0 (by decide)) (clE_k E s kc0) rfl ⟨rfl, rfl⟩ (by decide) (by decide) (As := [.int (jI v54)]) (rest := []) rfl rfl (Nat.le_of_ble_eq_true rfl) dL_frames_145 (J_pI (fun v61 g63 h => ?_))
                refine J_iload C dL_frames_148 7 rfl ?_
                refine J_icmp_ne C g63 g40 (tgt := 177) dL_frames_150 (by decide) (fun q72 => ?_) (fun q72 => ?_)
                · replace h := h.2 q72
                  exact J_sub [1, 2, 3, 5, 6, 7, 8, 9, 0] rfl (j177 _ _ _ h g8_114 g9_114 g56)
                · replace h := h.1 q72
                  refine J_iload C dL_frames_153 8 rfl ?_
                  refine J_if_eq C g8_114 (tgt := 173) dL_frames_155 (by decide) (fun q71 => ?_) (fun q71 => ?_)
                  · replace h := h.1 q71
                    exact J_sub [1, 2, 3, 5, 6, 7, 8, 9, 0] rfl (j173 _ _ _ h g8_114 g9_114 g56)
                  · replace h := h.2 q71
                    refine J_iload C dL_frames_158 0 rfl ?_
                    refine J_aload_n C dL_frames_160 rfl 1 rfl ?_
                    refine J_iload C dL_frames_161 7 rfl ?_
                    refine J_iload C dL_frames_163 8 rfl ?_
                    refine J_iconst C dL_frames_165 ?_
                    refine J_isub C dL_frames_166 ?_
                    obtain ⟨g65, h⟩ := h
                    refine J_V C (ct_X9_toNew hs g40 g65 h) ck_X9_toNew wm_L_56 win_X9_toNew wsel_X9_toNew (dmC hs kc0 (by decide)) (clE_k E s kc0) rfl ⟨rfl, rfl⟩ (by decide) (by decide) (As := [.int (jI v38), .int (jI (x8_114 - 1))]) (rest := [.int (jI v54)]) rfl rfl (Nat.le_of_ble_eq_true rfl) dL_frames_167 (J_pI (fun v66 g68 h => ?_))
                    refine J_icmp_le C g56 g68 (tgt := 177) dL_frames_170 (by decide) (fun q70 => ?_) (fun q70 => ?_)
                    · replace h := h.1 q70
                      exact J_sub [1, 2, 3, 5, 6, 7, 8, 9, 0] rfl (j177 _ _ _ h g8_114 g9_114 g56)
                    · replace h := h.2 q70
                      exact J_sub [1, 2, 3, 5, 6, 7, 8, 9, 0] rfl (j173 _ _ _ h g8_114 g9_114 g56)
          )
          exact J_sub [4, 5, 6, 7, 8, 3, 2, 1, 0] rfl (h g4_76 (rgN 0 (by decide)) (rgN 0 (by decide)))
    )
    exact J_sub [2, 3, 4, 1, 0] rfl (h gt0_71 (rgN 0 (by decide)))
  have j70 : ∀ (x2 : Int), wj_L_frames_70  sl sx x2 s Q → rgI x2 → JJ F E 0 0 s 70 [(0, .ref (adE E 0)), (1, .ref (ea E 9)), (2, .int (jI x2))] [] := by
    intro x2 h g2
    refine J_iconst C dL_frames_70 ?_
    exact J_sub [0, 1, 2] rfl (j71 _ _ h g2 (rgN 0 (by decide)))
  refine J_aload_n C dL_frames_0 rfl 0 rfl ?_
  refine J_bipush C dL_frames_1 (by decide) ?_
  refine J_V C (ct_X9_told hs (rgN 6 (by decide)) h) ck_X9_told wm_L_47 win_X9_told wsel_X9_told (dmC hs kc0 (by decide)) (clE_k E s kc0) rfl ⟨rfl, rfl⟩ (by decide) (by decide) (As := [.int (jI 6)]) (rest := []) rfl rfl (Nat.le_of_ble_eq_true rfl) dL_frames_3 (J_pI (fun v21 g23 h => ?_))
  refine J_istore_n C dL_frames_6 rfl (by decide) (lv' := [(2, .int (jI v21)), (0, .ref (adE E 0)), (1, .ref (ea E 9))]) rfl ?_
  refine J_iconst C dL_frames_7 ?_
  refine J_istore_n C dL_frames_8 rfl (by decide) (lv' := [(3, .int (jI 0)), (2, .int (jI v21)), (0, .ref (adE E 0)), (1, .ref (ea E 9))]) rfl ?_
  refine J_iconst C dL_frames_9 ?_
  refine J_istore C dL_frames_10 (by decide) (lv' := [(4, .int (jI 0)), (3, .int (jI 0)), (2, .int (jI v21)), (0, .ref (adE E 0)), (1, .ref (ea E 9))]) rfl ?_
  replace h := h (fun (x3_12 : Int) (x4_12 : Int) => rgI x3_12 → rgI x4_12 → JJ F E 0 0 s 12 [(0, .ref (adE E 0)), (1, .ref (ea E 9)), (2, .int (jI v21)), (3, .int (jI x3_12)), (4, .int (jI x4_12))] []) (by
    intro x3_12 x4_12 h g3_12 g4_12
    refine J_iload C dL_frames_12 4 rfl ?_
    refine J_aload_n C dL_frames_14 rfl 0 rfl ?_
    refine J_iconst C dL_frames_15 ?_
    refine J_V C (ct_X9_told hs (rgN 5 (by decide)) h) ck_X9_told wm_L_47 win_X9_told wsel_X9_told (dmC hs kc0 (by decide)) (clE_k E s kc0) rfl ⟨rfl, rfl⟩ (by decide) (by decide) (As := [.int (jI 5)]) (rest := [.int (jI x4_12)]) rfl rfl (Nat.le_of_ble_eq_true rfl) dL_frames_16 (J_pI (fun v25 g27 h => ?_))
    refine J_icmp_ge C g4_12 g27 (tgt := 51) dL_frames_19 (by decide) (fun q94 => ?_) (fun q94 => ?_)
    · replace h := h.1 q94
      refine J_iload_n C dL_frames_51 rfl 3 rfl ?_
      refine J_iload_n C dL_frames_52 rfl 2 rfl ?_
      refine J_icmp_ne C g3_12 g23 (tgt := 70) dL_frames_53 (by decide) (fun q82 => ?_) (fun q82 => ?_)
      · replace h := h.2 q82
        exact J_sub [0, 1, 2] rfl (j70 _ h g23)
      · replace h := h.1 q82
        refine J_aload_n C dL_frames_56 rfl 0 rfl ?_
        refine J_iload_n C dL_frames_57 rfl 2 rfl ?_
        refine J_V C (ct_X9_toOld hs g23 h) ck_X9_toOld wm_L_53 win_X9_toOld wsel_X9_toOld (dmC hs kc0 (by decide)) (clE_k E s kc0) rfl ⟨rfl, rfl⟩ (by decide) (by decide) (As := [.int (jI v21)]) (rest := []) rfl rfl (Nat.le_of_ble_eq_true rfl) dL_frames_58 (J_pI (fun v77 g79 h => ?_))
        refine J_bipush C dL_frames_61 (by decide) ?_
        refine J_icmp_ne C g79 (rgN (-9) (by decide)) (tgt := 70) dL_frames_63 (by decide) (fun q81 => ?_) (fun q81 => ?_)
        · replace h := h.2 q81
          exact J_sub [0, 1, 2] rfl (j70 _ h g23)
        · replace h := h.1 q81
          refine J_iconst C dL_frames_66 ?_
          refine J_goto C (tgt := 71) dL_frames_67 (by decide) ?_
          exact J_sub [0, 1, 2] rfl (j71 _ _ h g23 (rgN 1 (by decide)))
    · replace h := h.2 q94
      refine J_aload_n C dL_frames_22 rfl 0 rfl ?_
      refine J_iload C dL_frames_23 4 rfl ?_
      refine J_iconst C dL_frames_25 ?_
      refine J_V C (ct_X9_pieceAt hs g4_12 (rgN 2 (by decide)) h) ck_X9_pieceAt wm_L_50 win_X9_pieceAt wsel_X9_pieceAt (dmC hs kc0 (by decide)) (clE_k E s kc0) rfl ⟨rfl, rfl⟩ (by decide) (by decide) (As := [.int (jI x4_12), .int (jI 2)]) (rest := []) rfl rfl (Nat.le_of_ble_eq_true rfl) dL_frames_26 (J_pI (fun v83 g85 h => ?_))
      refine J_iload_n C dL_frames_29 rfl 3 rfl ?_
      refine J_icmp_eq C g85 g3_12 (tgt := 35) dL_frames_30 (by decide) (fun q93 => ?_) (fun q93 => ?_)
      · replace h := h.1 q93
        refine J_iload_n C dL_frames_35 rfl 3 rfl ?_
        refine J_aload_n C dL_frames_36 rfl 0 rfl ?_
        refine J_iload C dL_frames_37 4 rfl ?_
        refine J_iconst C dL_frames_39 ?_
        refine J_V C (ct_X9_pieceAt hs g4_12 (rgN 1 (by decide)) h) ck_X9_pieceAt wm_L_50 win_X9_pieceAt wsel_X9_pieceAt (dmC hs kc0 (by decide)) (clE_k E s kc0) rfl ⟨rfl, rfl⟩ (by decide) (by decide) (As := [.int (jI x4_12), .int (jI 1)]) (rest := [.int (jI x3_12)]) rfl rfl (Nat.le_of_ble_eq_true rfl) dL_frames_40 (J_pI (fun v87 g89 h => ?_))
        refine J_iadd C dL_frames_43 ?_
        obtain ⟨x3_44, e91⟩ : ∃ v : Int, v = (x3_12 + v87) := ⟨_, rfl⟩
        obtain ⟨g3_44, h⟩ := h x3_44 e91
        refine J_top e91 ?_
        refine J_istore_n C dL_frames_44 rfl (by decide) (lv' := [(3, .int (jI x3_44)), (0, .ref (adE E 0)), (1, .ref (ea E 9)), (2, .int (jI v21)), (4, .int (jI x4_12))]) rfl ?_
        refine J_iinc C dL_frames_45 4 rfl (by decide) (lv' := [(4, .int (jI (x4_12 + 1))), (3, .int (jI x3_44)), (0, .ref (adE E 0)), (1, .ref (ea E 9)), (2, .int (jI v21))]) rfl ?_
        refine J_goto C (tgt := 12) dL_frames_48 (by decide) ?_
        obtain ⟨g92, h⟩ := h
        exact J_sub [2, 3, 4, 1, 0] rfl (h g3_44 g92)
      · replace h := h.2 q93
        refine J_iconst C dL_frames_33 ?_
        exact J_zret C (Nat.zero_le _) (Nat.zero_le _) (nar_z (Or.inl rfl)) dL_frames_34 (by rw [hF]; exact ⟨_, rfl, (Or.inl rfl), ⟨h, rfl⟩, rfl⟩)
  )
  exact J_sub [3, 4, 2, 1, 0] rfl (h (rgN 0 (by decide)) (rgN 0 (by decide)))
set_option maxHeartbeats 4000000 in
set_option maxRecDepth 100000 in
theorem ct_L_order {l : Launch} {E : ET} (hs : eS E = true) {s : Sg} {Q : Int → Prop} (h : wp_L_order s Q) : MetE l E yL_order cL_order 4 (some .boolean) rm_L_order s [.ref (adE E 0)] (qZ (fun r t => Q r ∧ t = s) (gN s)) := by
  refine MetJ (by decide +kernel) (Nat.le_of_ble_eq_true rfl) ?_
  intro F hl C hF
  subst hl
  show JJ F E 0 0 s 0 [(0, .ref (adE E 0))] []
  refine J_iconst C dL_order_0 ?_
  refine J_istore_n C dL_order_1 rfl (by decide) (lv' := [(1, .int (jI 1)), (0, .ref (adE E 0))]) rfl ?_
  refine J_iconst C dL_order_2 ?_
  refine J_istore_n C dL_order_3 rfl (by decide) (lv' := [(2, .int (jI 0)), (1, .int (jI 1)), (0, .ref (adE E 0))]) rfl ?_
  replace h := h (fun (x1_4 : Int) (x2_4 : Int) => rgI x1_4 → rgI x2_4 → JJ F E 0 0 s 4 [(0, .ref (adE E 0)), (1, .int (jI x1_4)), (2, .int (jI x2_4))] []) (by
    intro x1_4 x2_4 h g1_4 g2_4
    have j140 : ∀ (x2 : Int) (t0_140 : Int), wj_L_order_140 (fun (x1_4 : Int) (x2_4 : Int) => rgI x1_4 → rgI x2_4 → JJ F E 0 0 s 4 [(0, .ref (adE E 0)), (1, .int (jI x1_4)), (2, .int (jI x2_4))] [])  x2 t0_140 s Q → rgI x2 → rgI t0_140 → JJ F E 0 0 s 140 [(0, .ref (adE E 0)), (2, .int (jI x2))] [.int (jI t0_140)] := by
      intro x2 t0_140 h g2 gt0_140
      refine J_istore_n C dL_order_140 rfl (by decide) (lv' := [(1, .int (jI t0_140)), (0, .ref (adE E 0)), (2, .int (jI x2))]) rfl ?_
      refine J_iinc C dL_order_141 2 rfl (by decide) (lv' := [(2, .int (jI (x2 + 1))), (1, .int (jI t0_140)), (0, .ref (adE E 0))]) rfl ?_
      refine J_goto C (tgt := 4) dL_order_144 (by decide) ?_
      obtain ⟨g30, h⟩ := h
      exact J_sub [2, 1, 0] rfl (h gt0_140 g30)
    have j139 : ∀ (x2 : Int), wj_L_order_139 (fun (x1_4 : Int) (x2_4 : Int) => rgI x1_4 → rgI x2_4 → JJ F E 0 0 s 4 [(0, .ref (adE E 0)), (1, .int (jI x1_4)), (2, .int (jI x2_4))] [])  x2 s Q → rgI x2 → JJ F E 0 0 s 139 [(0, .ref (adE E 0)), (2, .int (jI x2))] [] := by
      intro x2 h g2
      refine J_iconst C dL_order_139 ?_
      exact J_sub [0, 1] rfl (j140 _ _ h g2 (rgN 0 (by decide)))
    have j135 : ∀ (x2 : Int), wj_L_order_135 (fun (x1_4 : Int) (x2_4 : Int) => rgI x1_4 → rgI x2_4 → JJ F E 0 0 s 4 [(0, .ref (adE E 0)), (1, .int (jI x1_4)), (2, .int (jI x2_4))] [])  x2 s Q → rgI x2 → JJ F E 0 0 s 135 [(0, .ref (adE E 0)), (2, .int (jI x2))] [] := by
      intro x2 h g2
      refine J_iconst C dL_order_135 ?_
      refine J_goto C (tgt := 140) dL_order_136 (by decide) ?_
      exact J_sub [0, 1] rfl (j140 _ _ h g2 (rgN 1 (by decide)))
    have j59 : ∀ (x2 : Int) (t0_59 : Int), wj_L_order_59 (fun (x1_4 : Int) (x2_4 : Int) => rgI x1_4 → rgI x2_4 → JJ F E 0 0 s 4 [(0, .ref (adE E 0)), (1, .int (jI x1_4)), (2, .int (jI x2_4))] [])  x2 t0_59 s Q → rgI x2 → rgI t0_59 → JJ F E 0 0 s 59 [(0, .ref (adE E 0)), (2, .int (jI x2))] [.int (jI t0_59)] := by
      intro x2 t0_59 h g2 gt0_59
      refine J_istore_n C dL_order_59 rfl (by decide) (lv' := [(1, .int (jI t0_59)), (0, .ref (adE E 0)), (2, .int (jI x2))]) rfl ?_
      refine J_aload_n C dL_order_60 rfl 1 rfl ?_
      refine J_iload_n C dL_order_61 rfl 2 rfl ?_
      refine J_bipush C dL_order_62 (by decide) ?_
      refine J_V C (ct_X9_subtitle hs g2 (rgN 6 (by decide)) h) ck_X9_subtitle wm_L_33 win_X9_subtitle wsel_X9_subtitle (dmC hs kc0 (by decide)) (clE_k E s kc0) rfl ⟨rfl, rfl⟩ (by decide) (by decide) (As := [.int (jI x2), .int (jI 6)]) (rest := []) rfl rfl (Nat.le_of_ble_eq_true rfl) dL_order_64 (J_pI (fun v26 g28 h => ?_))
      refine J_istore_n C dL_order_67 rfl (by decide) (lv' := [(3, .int (jI v26)), (1, .int (jI t0_59)), (0, .ref (adE E 0)), (2, .int (jI x2))]) rfl ?_
      refine J_iload_n C dL_order_68 rfl 1 rfl ?_
      refine J_if_eq C gt0_59 (tgt := 139) dL_order_69 (by decide) (fun q65 => ?_) (fun q65 => ?_)
      · replace h := h.1 q65
        exact J_sub [2, 3] rfl (j139 _ h g2)
      · replace h := h.2 q65
        refine J_iload_n C dL_order_72 rfl 0 rfl ?_
        refine J_bipush C dL_order_73 (by decide) ?_
        refine J_icmp_ne C g28 (rgN (-9) (by decide)) (tgt := 103) dL_order_75 (by decide) (fun q64 => ?_) (fun q64 => ?_)
        · replace h := h.2 q64
          refine J_aload_n C dL_order_103 rfl 2 rfl ?_
          refine J_iload_n C dL_order_104 rfl 0 rfl ?_
          refine J_iconst C dL_order_105 ?_
          refine J_V C (ct_X9_subtitle hs g28 (rgN 0 (by decide)) h) ck_X9_subtitle wm_L_33 win_X9_subtitle wsel_X9_subtitle (dmC hs kc0 (by decide)) (clE_k E s kc0) rfl ⟨rfl, rfl⟩ (by decide) (by decide) (As := [.int (jI v26), .int (jI 0)]) (rest := []) rfl rfl (Nat.le_of_ble_eq_true rfl) dL_order_106 (J_pI (fun v31 g33 h => ?_))
          refine J_aload_n C dL_order_109 rfl 2 rfl ?_
          refine J_iload_n C dL_order_110 rfl 3 rfl ?_
          refine J_iconst C dL_order_111 ?_
          refine J_V C (ct_X9_subtitle hs g2 (rgN 0 (by decide)) h) ck_X9_subtitle wm_L_33 win_X9_subtitle wsel_X9_subtitle (dmC hs kc0 (by decide)) (clE_k E s kc0) rfl ⟨rfl, rfl⟩ (by decide) (by decide) (As := [.int (jI x2), .int (jI 0)]) (rest := [.int (jI v31)]) rfl rfl (Nat.le_of_ble_eq_true rfl) dL_order_112 (J_pI (fun v35 g37 h => ?_))
          refine J_icmp_le C g33 g37 (tgt := 139) dL_order_115 (by decide) (fun q49 => ?_) (fun q49 => ?_)
          · replace h := h.1 q49
            exact J_sub [2, 3] rfl (j139 _ h g2)
          · replace h := h.2 q49
            refine J_aload_n C dL_order_118 rfl 2 rfl ?_
            refine J_iload_n C dL_order_119 rfl 0 rfl ?_
            refine J_iconst C dL_order_120 ?_
            refine J_isub C dL_order_121 ?_
            refine J_iconst C dL_order_122 ?_
            obtain ⟨g39, h⟩ := h
            refine J_V C (ct_X9_subtitle hs g39 (rgN 0 (by decide)) h) ck_X9_subtitle wm_L_33 win_X9_subtitle wsel_X9_subtitle (dmC hs kc0 (by decide)) (clE_k E s kc0) rfl ⟨rfl, rfl⟩ (by decide) (by decide) (As := [.int (jI (v26 - 1)), .int (jI 0)]) (rest := []) rfl rfl (Nat.le_of_ble_eq_true rfl) dL_order_123 (J_pI (fun v40 g42 h => ?_))
            refine J_aload_n C dL_order_126 rfl 2 rfl ?_
            refine J_iload_n C dL_order_127 rfl 3 rfl ?_
            refine J_iconst C dL_order_128 ?_
            refine J_V C (ct_X9_subtitle hs g2 (rgN 0 (by decide)) h) ck_X9_subtitle wm_L_33 win_X9_subtitle wsel_X9_subtitle (dmC hs kc0 (by decide)) (clE_k E s kc0) rfl ⟨rfl, rfl⟩ (by decide) (by decide) (As := [.int (jI x2), .int (jI 0)]) (rest := [.int (jI v40)]) rfl rfl (Nat.le_of_ble_eq_true rfl) dL_order_129 (J_pI (fun v44 g46 h => ?_))
            refine J_icmp_ne C g42 g46 (tgt := 139) dL_order_132 (by decide) (fun q48 => ?_) (fun q48 => ?_)
            · replace h := h.2 q48
              exact J_sub [2, 3] rfl (j139 _ h g2)
            · replace h := h.1 q48
              exact J_sub [2, 3] rfl (j135 _ h g2)
        · replace h := h.1 q64
          refine J_aload_n C dL_order_78 rfl 2 rfl ?_
          refine J_aload_n C dL_order_79 rfl 2 rfl ?_
          refine J_bipush C dL_order_80 (by decide) ?_
          refine J_V C (ct_X9_told hs (rgN 8 (by decide)) h) ck_X9_told wm_L_47 win_X9_told wsel_X9_told (dmC hs kc0 (by decide)) (clE_k E s kc0) rfl ⟨rfl, rfl⟩ (by decide) (by decide) (As := [.int (jI 8)]) (rest := [.ref (adE E 0)]) rfl rfl (Nat.le_of_ble_eq_true rfl) dL_order_82 (J_pI (fun v50 g52 h => ?_))
          refine J_iconst C dL_order_85 ?_
          refine J_isub C dL_order_86 ?_
          refine J_iconst C dL_order_87 ?_
          obtain ⟨g54, h⟩ := h
          refine J_V C (ct_X9_subtitle hs g54 (rgN 0 (by decide)) h) ck_X9_subtitle wm_L_33 win_X9_subtitle wsel_X9_subtitle (dmC hs kc0 (by decide)) (clE_k E s kc0) rfl ⟨rfl, rfl⟩ (by decide) (by decide) (As := [.int (jI (v50 - 1)), .int (jI 0)]) (rest := []) rfl rfl (Nat.le_of_ble_eq_true rfl) dL_order_88 (J_pI (fun v55 g57 h => ?_))
          refine J_aload_n C dL_order_91 rfl 2 rfl ?_
          refine J_iload_n C dL_order_92 rfl 3 rfl ?_
          refine J_iconst C dL_order_93 ?_
          refine J_V C (ct_X9_subtitle hs g2 (rgN 0 (by decide)) h) ck_X9_subtitle wm_L_33 win_X9_subtitle wsel_X9_subtitle (dmC hs kc0 (by decide)) (clE_k E s kc0) rfl ⟨rfl, rfl⟩ (by decide) (by decide) (As := [.int (jI x2), .int (jI 0)]) (rest := [.int (jI v55)]) rfl rfl (Nat.le_of_ble_eq_true rfl) dL_order_94 (J_pI (fun v59 g61 h => ?_))
          refine J_icmp_ne C g57 g61 (tgt := 139) dL_order_97 (by decide) (fun q63 => ?_) (fun q63 => ?_)
          · replace h := h.2 q63
            exact J_sub [2, 3] rfl (j139 _ h g2)
          · replace h := h.1 q63
            refine J_goto C (tgt := 135) dL_order_100 (by decide) ?_
            exact J_sub [2, 3] rfl (j135 _ h g2)
    have j58 : ∀ (x2 : Int), wj_L_order_58 (fun (x1_4 : Int) (x2_4 : Int) => rgI x1_4 → rgI x2_4 → JJ F E 0 0 s 4 [(0, .ref (adE E 0)), (1, .int (jI x1_4)), (2, .int (jI x2_4))] [])  x2 s Q → rgI x2 → JJ F E 0 0 s 58 [(0, .ref (adE E 0)), (2, .int (jI x2))] [] := by
      intro x2 h g2
      refine J_iconst C dL_order_58 ?_
      exact J_sub [0, 1] rfl (j59 _ _ h g2 (rgN 0 (by decide)))
    have j54 : ∀ (x2 : Int), wj_L_order_54 (fun (x1_4 : Int) (x2_4 : Int) => rgI x1_4 → rgI x2_4 → JJ F E 0 0 s 4 [(0, .ref (adE E 0)), (1, .int (jI x1_4)), (2, .int (jI x2_4))] [])  x2 s Q → rgI x2 → JJ F E 0 0 s 54 [(0, .ref (adE E 0)), (2, .int (jI x2))] [] := by
      intro x2 h g2
      refine J_iconst C dL_order_54 ?_
      refine J_goto C (tgt := 59) dL_order_55 (by decide) ?_
      exact J_sub [0, 1] rfl (j59 _ _ h g2 (rgN 1 (by decide)))
    refine J_iload_n C dL_order_4 rfl 2 rfl ?_
    refine J_aload_n C dL_order_5 rfl 0 rfl ?_
    refine J_bipush C dL_order_6 (by decide) ?_
    refine J_V C (ct_X9_told hs (rgN 8 (by decide)) h) ck_X9_told wm_L_47 win_X9_told wsel_X9_told (dmC hs kc0 (by decide)) (clE_k E s kc0) rfl ⟨rfl, rfl⟩ (by decide) (by decide) (As := [.int (jI 8)]) (rest := [.int (jI x2_4)]) rfl rfl (Nat.le_of_ble_eq_true rfl) dL_order_8 (J_pI (fun v21 g23 h => ?_))
    refine J_icmp_ge C g2_4 g23 (tgt := 147) dL_order_11 (by decide) (fun q87 => ?_) (fun q87 => ?_)
    · replace h := h.1 q87
      refine J_iload_n C dL_order_147 rfl 1 rfl ?_
      obtain ⟨g25, h⟩ := h
      exact J_zret C (Nat.zero_le _) (Nat.zero_le _) (nar_z g25) dL_order_148 (by rw [hF]; exact ⟨_, rfl, g25, ⟨h, rfl⟩, rfl⟩)
    · replace h := h.2 q87
      refine J_iload_n C dL_order_14 rfl 1 rfl ?_
      refine J_if_eq C g1_4 (tgt := 58) dL_order_15 (by decide) (fun q86 => ?_) (fun q86 => ?_)
      · replace h := h.1 q86
        exact J_sub [0, 2] rfl (j58 _ h g2_4)
      · replace h := h.2 q86
        refine J_aload_n C dL_order_18 rfl 0 rfl ?_
        refine J_iload_n C dL_order_19 rfl 2 rfl ?_
        refine J_iconst C dL_order_20 ?_
        refine J_V C (ct_X9_subtitle hs g2_4 (rgN 0 (by decide)) h) ck_X9_subtitle wm_L_33 win_X9_subtitle wsel_X9_subtitle (dmC hs kc0 (by decide)) (clE_k E s kc0) rfl ⟨rfl, rfl⟩ (by decide) (by decide) (As := [.int (jI x2_4), .int (jI 0)]) (rest := []) rfl rfl (Nat.le_of_ble_eq_true rfl) dL_order_21 (J_pI (fun v66 g68 h => ?_))
        refine J_aload_n C dL_order_24 rfl 0 rfl ?_
        refine J_iload_n C dL_order_25 rfl 2 rfl ?_
        refine J_iconst C dL_order_26 ?_
        refine J_V C (ct_X9_subtitle hs g2_4 (rgN 1 (by decide)) h) ck_X9_subtitle wm_L_33 win_X9_subtitle wsel_X9_subtitle (dmC hs kc0 (by decide)) (clE_k E s kc0) rfl ⟨rfl, rfl⟩ (by decide) (by decide) (As := [.int (jI x2_4), .int (jI 1)]) (rest := [.int (jI v66)]) rfl rfl (Nat.le_of_ble_eq_true rfl) dL_order_27 (J_pI (fun v70 g72 h => ?_))
        refine J_icmp_ge C g68 g72 (tgt := 58) dL_order_30 (by decide) (fun q85 => ?_) (fun q85 => ?_)
        · replace h := h.1 q85
          exact J_sub [0, 2] rfl (j58 _ h g2_4)
        · replace h := h.2 q85
          refine J_iload_n C dL_order_33 rfl 2 rfl ?_
          refine J_if_eq C g2_4 (tgt := 54) dL_order_34 (by decide) (fun q84 => ?_) (fun q84 => ?_)
          · replace h := h.1 q84
            exact J_sub [0, 2] rfl (j54 _ h g2_4)
          · replace h := h.2 q84
            refine J_aload_n C dL_order_37 rfl 0 rfl ?_
            refine J_iload_n C dL_order_38 rfl 2 rfl ?_
            refine J_iconst C dL_order_39 ?_
            refine J_isub C dL_order_40 ?_
            refine J_iconst C dL_order_41 ?_
            obtain ⟨g74, h⟩ := h
            refine J_V C (ct_X9_subtitle hs g74 (rgN 0 (by decide)) h) ck_X9_subtitle wm_L_33 win_X9_subtitle wsel_X9_subtitle (dmC hs kc0 (by decide)) (clE_k E s kc0) rfl ⟨rfl, rfl⟩ (by decide) (by decide) (As := [.int (jI (x2_4 - 1)), .int (jI 0)]) (rest := []) rfl rfl (Nat.le_of_ble_eq_true rfl) dL_order_42 (J_pI (fun v75 g77 h => ?_))
            refine J_aload_n C dL_order_45 rfl 0 rfl ?_
            refine J_iload_n C dL_order_46 rfl 2 rfl ?_
            refine J_iconst C dL_order_47 ?_
            refine J_V C (ct_X9_subtitle hs g2_4 (rgN 0 (by decide)) h) ck_X9_subtitle wm_L_33 win_X9_subtitle wsel_X9_subtitle (dmC hs kc0 (by decide)) (clE_k E s kc0) rfl ⟨rfl, rfl⟩ (by decide) (by decide) (As := [.int (jI x2_4), .int (jI 0)]) (rest := [.int (jI v75)]) rfl rfl (Nat.le_of_ble_eq_true rfl) dL_order_48 (J_pI (fun v79 g81 h => ?_))
            refine J_icmp_gt C g77 g81 (tgt := 58) dL_order_51 (by decide) (fun q83 => ?_) (fun q83 => ?_)
            · replace h := h.1 q83
              exact J_sub [0, 2] rfl (j58 _ h g2_4)
            · replace h := h.2 q83
              exact J_sub [0, 2] rfl (j54 _ h g2_4)
  )
  exact J_sub [2, 1, 0] rfl (h (rgN 1 (by decide)) (rgN 0 (by decide)))
set_option maxHeartbeats 4000000 in
set_option maxRecDepth 100000 in
theorem ct_L_lines {l : Launch} {E : ET} (hs : eS E = true) {s : Sg} {x1 : Int} (g1 : rgI x1) {x2 : Int} (g2 : rgI x2) {Q : Int → Prop} (h : wp_L_lines x1 x2 s Q) : MetE l E yL_lines cL_lines 11 (some .boolean) rm_L_lines s [.ref (adE E 0), .int (jI x1), .int (jI x2)] (qZ (fun r t => Q r ∧ t = s) (gN s)) := by
  refine MetJ (by decide +kernel) (Nat.le_of_ble_eq_true rfl) ?_
  intro F hl C hF
  subst hl
  show JJ F E 0 0 s 0 [(0, .ref (adE E 0)), (1, .int (jI x1)), (2, .int (jI x2))] []
  have j189 : ∀ (x1 : Int) (x2 : Int) (x3 : Int) (x4 : Int) (x5 : Int) (x6 : Int) (t0_189 : Int), wj_L_lines_189   x1 x2 x3 x4 x5 x6 t0_189 s Q → rgI x1 → rgI x2 → rgI x3 → rgI x4 → rgI x5 → rgI x6 → rgI t0_189 → JJ F E 0 0 s 189 [(0, .ref (adE E 0)), (1, .int (jI x1)), (2, .int (jI x2)), (3, .int (jI x3)), (4, .int (jI x4)), (5, .int (jI x5)), (6, .int (jI x6))] [.int (jI t0_189)] := by
    intro x1 x2 x3 x4 x5 x6 t0_189 h g1 g2 g3 g4 g5 g6 gt0_189
    refine J_istore C dL_lines_189 (by decide) (lv' := [(7, .int (jI t0_189)), (0, .ref (adE E 0)), (1, .int (jI x1)), (2, .int (jI x2)), (3, .int (jI x3)), (4, .int (jI x4)), (5, .int (jI x5)), (6, .int (jI x6))]) rfl ?_
    refine J_iconst C dL_lines_191 ?_
    refine J_istore C dL_lines_192 (by decide) (lv' := [(8, .int (jI 0)), (7, .int (jI t0_189)), (0, .ref (adE E 0)), (1, .int (jI x1)), (2, .int (jI x2)), (3, .int (jI x3)), (4, .int (jI x4)), (5, .int (jI x5)), (6, .int (jI x6))]) rfl ?_
    replace h := h (fun (x8_194 : Int) => rgI x8_194 → JJ F E 0 0 s 194 [(0, .ref (adE E 0)), (1, .int (jI x1)), (2, .int (jI x2)), (3, .int (jI x3)), (4, .int (jI x4)), (5, .int (jI x5)), (6, .int (jI x6)), (7, .int (jI t0_189)), (8, .int (jI x8_194))] []) (by
      intro x8_194 h g8_194
      have j303 : ∀ (x8 : Int), wj_L_lines_303 (fun (x8_194 : Int) => rgI x8_194 → JJ F E 0 0 s 194 [(0, .ref (adE E 0)), (1, .int (jI x1)), (2, .int (jI x2)), (3, .int (jI x3)), (4, .int (jI x4)), (5, .int (jI x5)), (6, .int (jI x6)), (7, .int (jI t0_189)), (8, .int (jI x8_194))] []) x1 x2 x3 x4 x5 x6 t0_189 x8 s Q → rgI x8 → JJ F E 0 0 s 303 [(0, .ref (adE E 0)), (1, .int (jI x1)), (2, .int (jI x2)), (3, .int (jI x3)), (4, .int (jI x4)), (5, .int (jI x5)), (6, .int (jI x6)), (7, .int (jI t0_189)), (8, .int (jI x8))] [] := by
        intro x8 h g8
        refine J_iinc C dL_lines_303 8 rfl (by decide) (lv' := [(8, .int (jI (x8 + 1))), (0, .ref (adE E 0)), (1, .int (jI x1)), (2, .int (jI x2)), (3, .int (jI x3)), (4, .int (jI x4)), (5, .int (jI x5)), (6, .int (jI x6)), (7, .int (jI t0_189))]) rfl ?_
        refine J_goto C (tgt := 194) dL_lines_306 (by decide) ?_
        obtain ⟨g58, h⟩ := h
        exact J_sub [1, 2, 3, 4, 5, 6, 7, 8, 0] rfl (h g58)
      have j279 : ∀ (x8 : Int) (x9 : Int) (t0_279 : Int), wj_L_lines_279 (fun (x8_194 : Int) => rgI x8_194 → JJ F E 0 0 s 194 [(0, .ref (adE E 0)), (1, .int (jI x1)), (2, .int (jI x2)), (3, .int (jI x3)), (4, .int (jI x4)), (5, .int (jI x5)), (6, .int (jI x6)), (7, .int (jI t0_189)), (8, .int (jI x8_194))] []) x1 x2 x3 x4 x5 x6 t0_189 x8 x9 t0_279 s Q → rgI x8 → rgI x9 → rgI t0_279 → JJ F E 0 0 s 279 [(0, .ref (adE E 0)), (1, .int (jI x1)), (2, .int (jI x2)), (3, .int (jI x3)), (4, .int (jI x4)), (5, .int (jI x5)), (6, .int (jI x6)), (7, .int (jI t0_189)), (8, .int (jI x8)), (9, .int (jI x9))] [.int (jI t0_279)] := by
        intro x8 x9 t0_279 h g8 g9 gt0_279
        refine J_istore C dL_lines_279 (by decide) (lv' := [(10, .int (jI t0_279)), (0, .ref (adE E 0)), (1, .int (jI x1)), (2, .int (jI x2)), (3, .int (jI x3)), (4, .int (jI x4)), (5, .int (jI x5)), (6, .int (jI x6)), (7, .int (jI t0_189)), (8, .int (jI x8)), (9, .int (jI x9))]) rfl ?_
        refine J_iload C dL_lines_281 10 rfl ?_
        refine J_if_eq C g9 (tgt := 303) dL_lines_283 (by decide) (fun q62 => ?_) (fun q62 => ?_)
        · replace h := h.1 q62
          exact J_sub [1, 2, 3, 4, 5, 6, 7, 8, 9] rfl (j303 _ h g8)
        · replace h := h.2 q62
          refine J_iload C dL_lines_286 8 rfl ?_
          refine J_if_eq C gt0_189 (tgt := 301) dL_lines_288 (by decide) (fun q61 => ?_) (fun q61 => ?_)
          · replace h := h.1 q61
            refine J_iconst C dL_lines_301 ?_
            exact J_zret C (Nat.zero_le _) (Nat.zero_le _) (nar_z (Or.inl rfl)) dL_lines_302 (by rw [hF]; exact ⟨_, rfl, (Or.inl rfl), ⟨h, rfl⟩, rfl⟩)
          · replace h := h.2 q61
            refine J_iload C dL_lines_291 0 rfl ?_
            refine J_bipush C dL_lines_293 (by decide) ?_
            refine J_iadd C dL_lines_295 ?_
            refine J_iload C dL_lines_296 7 rfl ?_
            obtain ⟨g59, h⟩ := h
            refine J_icmp_ge C g59 g6 (tgt := 303) dL_lines_298 (by decide) (fun q60 => ?_) (fun q60 => ?_)
            · replace h := h.1 q60
              exact J_sub [1, 2, 3, 4, 5, 6, 7, 8, 9] rfl (j303 _ h g8)
            · replace h := h.2 q60
              refine J_iconst C dL_lines_301 ?_
              exact J_zret C (Nat.zero_le _) (Nat.zero_le _) (nar_z (Or.inl rfl)) dL_lines_302 (by rw [hF]; exact ⟨_, rfl, (Or.inl rfl), ⟨h, rfl⟩, rfl⟩)
      have j245 : ∀ (x8 : Int) (t0_245 : Int), wj_L_lines_245 (fun (x8_194 : Int) => rgI x8_194 → JJ F E 0 0 s 194 [(0, .ref (adE E 0)), (1, .int (jI x1)), (2, .int (jI x2)), (3, .int (jI x3)), (4, .int (jI x4)), (5, .int (jI x5)), (6, .int (jI x6)), (7, .int (jI t0_189)), (8, .int (jI x8_194))] []) x1 x2 x3 x4 x5 x6 t0_189 x8 t0_245 s Q → rgI x8 → rgI t0_245 → JJ F E 0 0 s 245 [(0, .ref (adE E 0)), (1, .int (jI x1)), (2, .int (jI x2)), (3, .int (jI x3)), (4, .int (jI x4)), (5, .int (jI x5)), (6, .int (jI x6)), (7, .int (jI t0_189)), (8, .int (jI x8))] [.int (jI t0_245)] := by
        intro x8 t0_245 h g8 gt0_245
        refine J_istore C dL_lines_245 (by decide) (lv' := [(9, .int (jI t0_245)), (0, .ref (adE E 0)), (1, .int (jI x1)), (2, .int (jI x2)), (3, .int (jI x3)), (4, .int (jI x4)), (5, .int (jI x5)), (6, .int (jI x6)), (7, .int (jI t0_189)), (8, .int (jI x8))]) rfl ?_
        refine J_iload C dL_lines_247 9 rfl ?_
        refine J_iload_n C dL_lines_249 rfl 4 rfl ?_
        refine J_iload C dL_lines_250 9 rfl ?_
        refine J_isub C dL_lines_252 ?_
        refine J_iconst C dL_lines_253 ?_
        refine J_isub C dL_lines_254 ?_
        obtain ⟨g57, h⟩ := h
        refine J_icmp_le C g8 g57 (tgt := 270) dL_lines_255 (by decide) (fun q65 => ?_) (fun q65 => ?_)
        · replace h := h.1 q65
          refine J_iload_n C dL_lines_270 rfl 4 rfl ?_
          refine J_iload C dL_lines_271 9 rfl ?_
          refine J_isub C dL_lines_273 ?_
          refine J_iconst C dL_lines_274 ?_
          refine J_isub C dL_lines_275 ?_
          refine J_iload C dL_lines_276 9 rfl ?_
          refine J_isub C dL_lines_278 ?_
          obtain ⟨g63, h⟩ := h
          exact J_sub [1, 2, 3, 4, 5, 6, 7, 8, 9, 0] rfl (j279 _ _ _ h g8 gt0_245 g63)
        · replace h := h.2 q65
          refine J_iload C dL_lines_258 9 rfl ?_
          refine J_iload_n C dL_lines_260 rfl 4 rfl ?_
          refine J_iload C dL_lines_261 9 rfl ?_
          refine J_isub C dL_lines_263 ?_
          refine J_iconst C dL_lines_264 ?_
          refine J_isub C dL_lines_265 ?_
          refine J_isub C dL_lines_266 ?_
          refine J_goto C (tgt := 279) dL_lines_267 (by decide) ?_
          obtain ⟨g64, h⟩ := h
          exact J_sub [1, 2, 3, 4, 5, 6, 7, 8, 9, 0] rfl (j279 _ _ _ h g8 gt0_245 g64)
      have j244 : ∀ (x8 : Int), wj_L_lines_244 (fun (x8_194 : Int) => rgI x8_194 → JJ F E 0 0 s 194 [(0, .ref (adE E 0)), (1, .int (jI x1)), (2, .int (jI x2)), (3, .int (jI x3)), (4, .int (jI x4)), (5, .int (jI x5)), (6, .int (jI x6)), (7, .int (jI t0_189)), (8, .int (jI x8_194))] []) x1 x2 x3 x4 x5 x6 t0_189 x8 s Q → rgI x8 → JJ F E 0 0 s 244 [(0, .ref (adE E 0)), (1, .int (jI x1)), (2, .int (jI x2)), (3, .int (jI x3)), (4, .int (jI x4)), (5, .int (jI x5)), (6, .int (jI x6)), (7, .int (jI t0_189)), (8, .int (jI x8))] [] := by
        intro x8 h g8
        refine J_iconst C dL_lines_244 ?_
        exact J_sub [0, 1, 2, 3, 4, 5, 6, 7, 8] rfl (j245 _ _ h g8 (rgN 0 (by decide)))
      refine J_iload C dL_lines_194 8 rfl ?_
      refine J_iload_n C dL_lines_196 rfl 3 rfl ?_
      refine J_icmp_ge C g8_194 g3 (tgt := 309) dL_lines_197 (by decide) (fun q78 => ?_) (fun q78 => ?_)
      · replace h := h.1 q78
        refine J_iload_n C dL_lines_309 rfl 3 rfl ?_
        refine J_aload_n C dL_lines_310 rfl 0 rfl ?_
        refine J_iconst C dL_lines_311 ?_
        refine J_V C (ct_X9_told hs (rgN 4 (by decide)) h) ck_X9_told wm_L_47 win_X9_told wsel_X9_told (dmC hs kc0 (by decide)) (clE_k E s kc0) rfl ⟨rfl, rfl⟩ (by decide) (by decide) (As := [.int (jI 4)]) (rest := [.int (jI x3)]) rfl rfl (Nat.le_of_ble_eq_true rfl) dL_lines_312 (J_pI (fun v39 g41 h => ?_))
        refine J_icmp_le C g3 g41 (tgt := 349) dL_lines_315 (by decide) (fun q51 => ?_) (fun q51 => ?_)
        · replace h := h.1 q51
          refine J_iconst C dL_lines_349 ?_
          exact J_zret C (Nat.zero_le _) (Nat.zero_le _) (nar_z (Or.inl rfl)) dL_lines_350 (by rw [hF]; exact ⟨_, rfl, (Or.inl rfl), ⟨h, rfl⟩, rfl⟩)
        · replace h := h.2 q51
          refine J_aload_n C dL_lines_318 rfl 0 rfl ?_
          refine J_iload_n C dL_lines_319 rfl 1 rfl ?_
          refine J_iload_n C dL_lines_320 rfl 2 rfl ?_
          refine J_bipush C dL_lines_321 (by decide) ?_
          refine J_iload C dL_lines_323 4 rfl ?_
          refine J_iadd C dL_lines_325 ?_
          obtain ⟨g43, h⟩ := h
          refine J_V C (ct_X9_part hs g1 g2 g43 h) ck_X9_part wm_L_59 win_X9_part wsel_X9_part (dmC hs kc0 (by decide)) (clE_k E s kc0) rfl ⟨rfl, rfl⟩ (by decide) (by decide) (As := [.int (jI x1), .int (jI x2), .int (jI (10 + x4))]) (rest := []) rfl rfl (Nat.le_of_ble_eq_true rfl) dL_lines_326 (J_pI (fun v44 g46 h => ?_))
          refine J_bipush C dL_lines_329 (by decide) ?_
          refine J_icmp_ne C g46 (rgN 32 (by decide)) (tgt := 349) dL_lines_331 (by decide) (fun q50 => ?_) (fun q50 => ?_)
          · replace h := h.2 q50
            refine J_iconst C dL_lines_349 ?_
            exact J_zret C (Nat.zero_le _) (Nat.zero_le _) (nar_z (Or.inl rfl)) dL_lines_350 (by rw [hF]; exact ⟨_, rfl, (Or.inl rfl), ⟨h, rfl⟩, rfl⟩)
          · replace h := h.1 q50
            refine J_iload C dL_lines_334 5 rfl ?_
            refine J_if_lt C g5 (tgt := 349) dL_lines_336 (by decide) (fun q49 => ?_) (fun q49 => ?_)
            · replace h := h.1 q49
              refine J_iconst C dL_lines_349 ?_
              exact J_zret C (Nat.zero_le _) (Nat.zero_le _) (nar_z (Or.inl rfl)) dL_lines_350 (by rw [hF]; exact ⟨_, rfl, (Or.inl rfl), ⟨h, rfl⟩, rfl⟩)
            · replace h := h.2 q49
              refine J_iload C dL_lines_339 5 rfl ?_
              refine J_iconst C dL_lines_341 ?_
              refine J_icmp_gt C g5 (rgN 3 (by decide)) (tgt := 349) dL_lines_342 (by decide) (fun q48 => ?_) (fun q48 => ?_)
              · replace h := h.1 q48
                refine J_iconst C dL_lines_349 ?_
                exact J_zret C (Nat.zero_le _) (Nat.zero_le _) (nar_z (Or.inl rfl)) dL_lines_350 (by rw [hF]; exact ⟨_, rfl, (Or.inl rfl), ⟨h, rfl⟩, rfl⟩)
              · replace h := h.2 q48
                refine J_iconst C dL_lines_345 ?_
                refine J_goto C (tgt := 350) dL_lines_346 (by decide) ?_
                exact J_zret C (Nat.zero_le _) (Nat.zero_le _) (nar_z (Or.inr rfl)) dL_lines_350 (by rw [hF]; exact ⟨_, rfl, (Or.inr rfl), ⟨h, rfl⟩, rfl⟩)
      · replace h := h.2 q78
        refine J_aload_n C dL_lines_200 rfl 0 rfl ?_
        refine J_iload_n C dL_lines_201 rfl 1 rfl ?_
        refine J_iload_n C dL_lines_202 rfl 2 rfl ?_
        refine J_bipush C dL_lines_203 (by decide) ?_
        refine J_iload C dL_lines_205 8 rfl ?_
        refine J_iadd C dL_lines_207 ?_
        obtain ⟨g52, h⟩ := h
        refine J_V C (ct_X9_part hs g1 g2 g52 h) ck_X9_part wm_L_59 win_X9_part wsel_X9_part (dmC hs kc0 (by decide)) (clE_k E s kc0) rfl ⟨rfl, rfl⟩ (by decide) (by decide) (As := [.int (jI x1), .int (jI x2), .int (jI (10 + x8_194))]) (rest := []) rfl rfl (Nat.le_of_ble_eq_true rfl) dL_lines_208 (J_pI (fun v53 g55 h => ?_))
        refine J_bipush C dL_lines_211 (by decide) ?_
        refine J_icmp_ne C g55 (rgN 32 (by decide)) (tgt := 244) dL_lines_213 (by decide) (fun q77 => ?_) (fun q77 => ?_)
        · replace h := h.2 q77
          exact J_sub [0, 1, 2, 3, 4, 5, 6, 7, 8] rfl (j244 _ h g8_194)
        · replace h := h.1 q77
          refine J_iload C dL_lines_216 8 rfl ?_
          refine J_aload_n C dL_lines_218 rfl 0 rfl ?_
          refine J_iconst C dL_lines_219 ?_
          refine J_V C (ct_X9_told hs (rgN 4 (by decide)) h) ck_X9_told wm_L_47 win_X9_told wsel_X9_told (dmC hs kc0 (by decide)) (clE_k E s kc0) rfl ⟨rfl, rfl⟩ (by decide) (by decide) (As := [.int (jI 4)]) (rest := [.int (jI x8_194)]) rfl rfl (Nat.le_of_ble_eq_true rfl) dL_lines_220 (J_pI (fun v66 g68 h => ?_))
          refine J_icmp_gt C g8_194 g68 (tgt := 244) dL_lines_223 (by decide) (fun q76 => ?_) (fun q76 => ?_)
          · replace h := h.1 q76
            exact J_sub [0, 1, 2, 3, 4, 5, 6, 7, 8] rfl (j244 _ h g8_194)
          · replace h := h.2 q76
            refine J_iload_n C dL_lines_226 rfl 3 rfl ?_
            refine J_iload C dL_lines_227 8 rfl ?_
            refine J_isub C dL_lines_229 ?_
            refine J_iconst C dL_lines_230 ?_
            refine J_isub C dL_lines_231 ?_
            refine J_aload_n C dL_lines_232 rfl 0 rfl ?_
            refine J_iconst C dL_lines_233 ?_
            refine J_V C (ct_X9_told hs (rgN 4 (by decide)) h) ck_X9_told wm_L_47 win_X9_told wsel_X9_told (dmC hs kc0 (by decide)) (clE_k E s kc0) rfl ⟨rfl, rfl⟩ (by decide) (by decide) (As := [.int (jI 4)]) (rest := [.int (jI ((x3 - x8_194) - 1))]) rfl rfl (Nat.le_of_ble_eq_true rfl) dL_lines_234 (J_pI (fun v70 g72 h => ?_))
            obtain ⟨g74, h⟩ := h
            refine J_icmp_gt C g74 g72 (tgt := 244) dL_lines_237 (by decide) (fun q75 => ?_) (fun q75 => ?_)
            · replace h := h.1 q75
              exact J_sub [0, 1, 2, 3, 4, 5, 6, 7, 8] rfl (j244 _ h g8_194)
            · replace h := h.2 q75
              refine J_iconst C dL_lines_240 ?_
              refine J_goto C (tgt := 245) dL_lines_241 (by decide) ?_
              exact J_sub [0, 1, 2, 3, 4, 5, 6, 7, 8] rfl (j245 _ _ h g8_194 (rgN 1 (by decide)))
    )
    exact J_sub [2, 3, 4, 5, 6, 7, 8, 1, 0] rfl (h (rgN 0 (by decide)))
  have j188 : ∀ (x1 : Int) (x2 : Int) (x3 : Int) (x4 : Int) (x5 : Int) (x6 : Int), wj_L_lines_188   x1 x2 x3 x4 x5 x6 s Q → rgI x1 → rgI x2 → rgI x3 → rgI x4 → rgI x5 → rgI x6 → JJ F E 0 0 s 188 [(0, .ref (adE E 0)), (1, .int (jI x1)), (2, .int (jI x2)), (3, .int (jI x3)), (4, .int (jI x4)), (5, .int (jI x5)), (6, .int (jI x6))] [] := by
    intro x1 x2 x3 x4 x5 x6 h g1 g2 g3 g4 g5 g6
    refine J_iconst C dL_lines_188 ?_
    exact J_sub [0, 1, 2, 3, 4, 5, 6] rfl (j189 _ _ _ _ _ _ _ h g1 g2 g3 g4 g5 g6 (rgN 0 (by decide)))
  have j152 : ∀ (x1 : Int) (x2 : Int) (x3 : Int) (x4 : Int) (x5 : Int) (t0_152 : Int), wj_L_lines_152   x1 x2 x3 x4 x5 t0_152 s Q → rgI x1 → rgI x2 → rgI x3 → rgI x4 → rgI x5 → rgI t0_152 → JJ F E 0 0 s 152 [(0, .ref (adE E 0)), (1, .int (jI x1)), (2, .int (jI x2)), (3, .int (jI x3)), (4, .int (jI x4)), (5, .int (jI x5))] [.int (jI t0_152)] := by
    intro x1 x2 x3 x4 x5 t0_152 h g1 g2 g3 g4 g5 gt0_152
    refine J_bipush C dL_lines_152 (by decide) ?_
    refine J_iload C dL_lines_154 5 rfl ?_
    refine J_imul C dL_lines_156 ?_
    refine J_iadd C dL_lines_157 ?_
    obtain ⟨x6_158, e34⟩ : ∃ v : Int, v = (t0_152 + (6 * x5)) := ⟨_, rfl⟩
    obtain ⟨g6_158, h⟩ := h x6_158 e34
    refine J_top e34 ?_
    refine J_istore C dL_lines_158 (by decide) (lv' := [(6, .int (jI x6_158)), (0, .ref (adE E 0)), (1, .int (jI x1)), (2, .int (jI x2)), (3, .int (jI x3)), (4, .int (jI x4)), (5, .int (jI x5))]) rfl ?_
    refine J_iload C dL_lines_160 5 rfl ?_
    refine J_aload_n C dL_lines_162 rfl 1 rfl ?_
    refine J_iconst C dL_lines_163 ?_
    refine J_V C (ct_X9_told hs (rgN 4 (by decide)) h) ck_X9_told wm_L_47 win_X9_told wsel_X9_told (dmC hs kc0 (by decide)) (clE_k E s kc0) rfl ⟨rfl, rfl⟩ (by decide) (by decide) (As := [.int (jI 4)]) (rest := [.int (jI x4)]) rfl rfl (Nat.le_of_ble_eq_true rfl) dL_lines_164 (J_pI (fun v35 g37 h => ?_))
    refine J_icmp_gt C g4 g37 (tgt := 188) dL_lines_167 (by decide) (fun q85 => ?_) (fun q85 => ?_)
    · replace h := h.1 q85
      exact J_sub [1, 2, 3, 4, 5, 6, 0] rfl (j188 _ _ _ _ _ _ h g1 g2 g3 g4 g5 g6_158)
    · replace h := h.2 q85
      refine J_iload_n C dL_lines_170 rfl 4 rfl ?_
      refine J_iload C dL_lines_171 5 rfl ?_
      refine J_isub C dL_lines_173 ?_
      refine J_iconst C dL_lines_174 ?_
      refine J_isub C dL_lines_175 ?_
      refine J_aload_n C dL_lines_176 rfl 1 rfl ?_
      refine J_iconst C dL_lines_177 ?_
      refine J_V C (ct_X9_told hs (rgN 4 (by decide)) h) ck_X9_told wm_L_47 win_X9_told wsel_X9_told (dmC hs kc0 (by decide)) (clE_k E s kc0) rfl ⟨rfl, rfl⟩ (by decide) (by decide) (As := [.int (jI 4)]) (rest := [.int (jI ((x3 - x4) - 1))]) rfl rfl (Nat.le_of_ble_eq_true rfl) dL_lines_178 (J_pI (fun v79 g81 h => ?_))
      obtain ⟨g83, h⟩ := h
      refine J_icmp_gt C g83 g81 (tgt := 188) dL_lines_181 (by decide) (fun q84 => ?_) (fun q84 => ?_)
      · replace h := h.1 q84
        exact J_sub [1, 2, 3, 4, 5, 6, 0] rfl (j188 _ _ _ _ _ _ h g1 g2 g3 g4 g5 g6_158)
      · replace h := h.2 q84
        refine J_iconst C dL_lines_184 ?_
        refine J_goto C (tgt := 189) dL_lines_185 (by decide) ?_
        exact J_sub [1, 2, 3, 4, 5, 6, 0] rfl (j189 _ _ _ _ _ _ _ h g1 g2 g3 g4 g5 g6_158 (rgN 1 (by decide)))
  have j99 : ∀ (x1 : Int) (x2 : Int) (x3 : Int), wj_L_lines_99   x1 x2 x3 s Q → rgI x1 → rgI x2 → rgI x3 → JJ F E 0 0 s 99 [(0, .ref (adE E 0)), (1, .int (jI x1)), (2, .int (jI x2)), (3, .int (jI x3))] [] := by
    intro x1 x2 x3 h g1 g2 g3
    refine J_aload_n C dL_lines_99 rfl 0 rfl ?_
    refine J_iload_n C dL_lines_100 rfl 1 rfl ?_
    refine J_iload_n C dL_lines_101 rfl 2 rfl ?_
    refine J_bipush C dL_lines_102 (by decide) ?_
    refine J_iload_n C dL_lines_104 rfl 3 rfl ?_
    refine J_iadd C dL_lines_105 ?_
    obtain ⟨g93, h⟩ := h
    refine J_V C (ct_X9_part hs g1 g2 g93 h) ck_X9_part wm_L_59 win_X9_part wsel_X9_part (dmC hs kc0 (by decide)) (clE_k E s kc0) rfl ⟨rfl, rfl⟩ (by decide) (by decide) (As := [.int (jI x1), .int (jI x2), .int (jI (10 + x3))]) (rest := []) rfl rfl (Nat.le_of_ble_eq_true rfl) dL_lines_106 (J_pI (fun v94 g96 h => ?_))
    refine J_bipush C dL_lines_109 (by decide) ?_
    refine J_icmp_ne C g96 (rgN (-9) (by decide)) (tgt := 118) dL_lines_111 (by decide) (fun q98 => ?_) (fun q98 => ?_)
    · replace h := h.2 q98
      refine J_iconst C dL_lines_118 ?_
      exact J_zret C (Nat.zero_le _) (Nat.zero_le _) (nar_z (Or.inl rfl)) dL_lines_119 (by rw [hF]; exact ⟨_, rfl, (Or.inl rfl), ⟨h, rfl⟩, rfl⟩)
    · replace h := h.1 q98
      refine J_iconst C dL_lines_114 ?_
      refine J_goto C (tgt := 119) dL_lines_115 (by decide) ?_
      exact J_zret C (Nat.zero_le _) (Nat.zero_le _) (nar_z (Or.inr rfl)) dL_lines_119 (by rw [hF]; exact ⟨_, rfl, (Or.inr rfl), ⟨h, rfl⟩, rfl⟩)
  refine J_aload_n C dL_lines_0 rfl 0 rfl ?_
  refine J_iload_n C dL_lines_1 rfl 1 rfl ?_
  refine J_iload_n C dL_lines_2 rfl 2 rfl ?_
  refine J_iconst C dL_lines_3 ?_
  refine J_V C (ct_X9_part hs g1 g2 (rgN 1 (by decide)) h) ck_X9_part wm_L_59 win_X9_part wsel_X9_part (dmC hs kc0 (by decide)) (clE_k E s kc0) rfl ⟨rfl, rfl⟩ (by decide) (by decide) (As := [.int (jI x1), .int (jI x2), .int (jI 1)]) (rest := []) rfl rfl (Nat.le_of_ble_eq_true rfl) dL_lines_4 (J_pI (fun v21 g23 h => ?_))
  refine J_istore_n C dL_lines_7 rfl (by decide) (lv' := [(3, .int (jI v21)), (0, .ref (adE E 0)), (1, .int (jI x1)), (2, .int (jI x2))]) rfl ?_
  refine J_aload_n C dL_lines_8 rfl 1 rfl ?_
  refine J_iload_n C dL_lines_9 rfl 2 rfl ?_
  refine J_iload_n C dL_lines_10 rfl 3 rfl ?_
  refine J_iconst C dL_lines_11 ?_
  refine J_V C (ct_X9_part hs g1 g2 (rgN 2 (by decide)) h) ck_X9_part wm_L_59 win_X9_part wsel_X9_part (dmC hs kc0 (by decide)) (clE_k E s kc0) rfl ⟨rfl, rfl⟩ (by decide) (by decide) (As := [.int (jI x1), .int (jI x2), .int (jI 2)]) (rest := []) rfl rfl (Nat.le_of_ble_eq_true rfl) dL_lines_12 (J_pI (fun v25 g27 h => ?_))
  refine J_istore C dL_lines_15 (by decide) (lv' := [(4, .int (jI v25)), (3, .int (jI v21)), (0, .ref (adE E 0)), (1, .int (jI x1)), (2, .int (jI x2))]) rfl ?_
  refine J_aload_n C dL_lines_17 rfl 2 rfl ?_
  refine J_iload_n C dL_lines_18 rfl 3 rfl ?_
  refine J_iload_n C dL_lines_19 rfl 4 rfl ?_
  refine J_iconst C dL_lines_20 ?_
  refine J_V C (ct_X9_part hs g1 g2 (rgN 3 (by decide)) h) ck_X9_part wm_L_59 win_X9_part wsel_X9_part (dmC hs kc0 (by decide)) (clE_k E s kc0) rfl ⟨rfl, rfl⟩ (by decide) (by decide) (As := [.int (jI x1), .int (jI x2), .int (jI 3)]) (rest := []) rfl rfl (Nat.le_of_ble_eq_true rfl) dL_lines_21 (J_pI (fun v29 g31 h => ?_))
  refine J_istore C dL_lines_24 (by decide) (lv' := [(5, .int (jI v29)), (4, .int (jI v25)), (3, .int (jI v21)), (0, .ref (adE E 0)), (1, .int (jI x1)), (2, .int (jI x2))]) rfl ?_
  refine J_iload C dL_lines_26 0 rfl ?_
  refine J_bipush C dL_lines_28 (by decide) ?_
  refine J_icmp_ne C g31 (rgN (-9) (by decide)) (tgt := 120) dL_lines_30 (by decide) (fun q111 => ?_) (fun q111 => ?_)
  · replace h := h.2 q111
    refine J_iload C dL_lines_120 1 rfl ?_
    refine J_iload_n C dL_lines_122 rfl 2 rfl ?_
    refine J_iload C dL_lines_123 1 rfl ?_
    refine J_isub C dL_lines_125 ?_
    refine J_iconst C dL_lines_126 ?_
    refine J_isub C dL_lines_127 ?_
    obtain ⟨g33, h⟩ := h
    refine J_icmp_le C g27 g33 (tgt := 143) dL_lines_128 (by decide) (fun q88 => ?_) (fun q88 => ?_)
    · replace h := h.1 q88
      refine J_iload_n C dL_lines_143 rfl 2 rfl ?_
      refine J_iload C dL_lines_144 1 rfl ?_
      refine J_isub C dL_lines_146 ?_
      refine J_iconst C dL_lines_147 ?_
      refine J_isub C dL_lines_148 ?_
      refine J_iload C dL_lines_149 1 rfl ?_
      refine J_isub C dL_lines_151 ?_
      obtain ⟨g86, h⟩ := h
      exact J_sub [3, 4, 5, 2, 1, 0] rfl (j152 _ _ _ _ _ _ h g1 g2 g23 g27 g31 g86)
    · replace h := h.2 q88
      refine J_iload C dL_lines_131 1 rfl ?_
      refine J_iload_n C dL_lines_133 rfl 2 rfl ?_
      refine J_iload C dL_lines_134 1 rfl ?_
      refine J_isub C dL_lines_136 ?_
      refine J_iconst C dL_lines_137 ?_
      refine J_isub C dL_lines_138 ?_
      refine J_isub C dL_lines_139 ?_
      refine J_goto C (tgt := 152) dL_lines_140 (by decide) ?_
      obtain ⟨g87, h⟩ := h
      exact J_sub [3, 4, 5, 2, 1, 0] rfl (j152 _ _ _ _ _ _ h g1 g2 g23 g27 g31 g87)
  · replace h := h.1 q111
    refine J_iconst C dL_lines_33 ?_
    refine J_istore C dL_lines_34 (by decide) (lv' := [(6, .int (jI 0)), (5, .int (jI v29)), (4, .int (jI v25)), (3, .int (jI v21)), (0, .ref (adE E 0)), (1, .int (jI x1)), (2, .int (jI x2))]) rfl ?_
    refine J_iconst C dL_lines_36 ?_
    refine J_istore C dL_lines_37 (by decide) (lv' := [(7, .int (jI 0)), (6, .int (jI 0)), (5, .int (jI v29)), (4, .int (jI v25)), (3, .int (jI v21)), (0, .ref (adE E 0)), (1, .int (jI x1)), (2, .int (jI x2))]) rfl ?_
    replace h := h (fun (x6_39 : Int) (x7_39 : Int) => rgI x6_39 → rgI x7_39 → JJ F E 0 0 s 39 [(0, .ref (adE E 0)), (1, .int (jI x1)), (2, .int (jI x2)), (3, .int (jI v21)), (4, .int (jI v25)), (6, .int (jI x6_39)), (7, .int (jI x7_39))] []) (by
      intro x6_39 x7_39 h g6_39 g7_39
      have j71 : ∀ (x7 : Int) (t0_71 : Int), wj_L_lines_71 (fun (x6_39 : Int) (x7_39 : Int) => rgI x6_39 → rgI x7_39 → JJ F E 0 0 s 39 [(0, .ref (adE E 0)), (1, .int (jI x1)), (2, .int (jI x2)), (3, .int (jI v21)), (4, .int (jI v25)), (6, .int (jI x6_39)), (7, .int (jI x7_39))] []) x1 x2 v21 v25 x7 t0_71 s Q → rgI x7 → rgI t0_71 → JJ F E 0 0 s 71 [(0, .ref (adE E 0)), (1, .int (jI x1)), (2, .int (jI x2)), (3, .int (jI v21)), (4, .int (jI v25)), (7, .int (jI x7))] [.int (jI t0_71)] := by
        intro x7 t0_71 h g7 gt0_71
        refine J_istore C dL_lines_71 (by decide) (lv' := [(6, .int (jI t0_71)), (0, .ref (adE E 0)), (1, .int (jI x1)), (2, .int (jI x2)), (3, .int (jI v21)), (4, .int (jI v25)), (7, .int (jI x7))]) rfl ?_
        refine J_iinc C dL_lines_73 6 rfl (by decide) (lv' := [(7, .int (jI (x7 + 1))), (6, .int (jI t0_71)), (0, .ref (adE E 0)), (1, .int (jI x1)), (2, .int (jI x2)), (3, .int (jI v21)), (4, .int (jI v25))]) rfl ?_
        refine J_goto C (tgt := 39) dL_lines_76 (by decide) ?_
        obtain ⟨g102, h⟩ := h
        exact J_sub [2, 3, 4, 5, 6, 1, 0] rfl (h gt0_71 g102)
      have j66 : ∀ (x7 : Int), wj_L_lines_66 (fun (x6_39 : Int) (x7_39 : Int) => rgI x6_39 → rgI x7_39 → JJ F E 0 0 s 39 [(0, .ref (adE E 0)), (1, .int (jI x1)), (2, .int (jI x2)), (3, .int (jI v21)), (4, .int (jI v25)), (6, .int (jI x6_39)), (7, .int (jI x7_39))] []) x1 x2 v21 v25 x7 s Q → rgI x7 → JJ F E 0 0 s 66 [(0, .ref (adE E 0)), (1, .int (jI x1)), (2, .int (jI x2)), (3, .int (jI v21)), (4, .int (jI v25)), (7, .int (jI x7))] [] := by
        intro x7 h g7
        refine J_iconst C dL_lines_66 ?_
        refine J_goto C (tgt := 71) dL_lines_67 (by decide) ?_
        exact J_sub [0, 1, 2, 3, 4, 5] rfl (j71 _ _ h g7 (rgN 1 (by decide)))
      refine J_iload C dL_lines_39 6 rfl ?_
      refine J_iload_n C dL_lines_41 rfl 3 rfl ?_
      refine J_icmp_ge C g7_39 g23 (tgt := 79) dL_lines_42 (by decide) (fun q110 => ?_) (fun q110 => ?_)
      · replace h := h.1 q110
        refine J_iload C dL_lines_79 4 rfl ?_
        refine J_iload_n C dL_lines_81 rfl 3 rfl ?_
        refine J_icmp_ne C g27 g23 (tgt := 118) dL_lines_82 (by decide) (fun q101 => ?_) (fun q101 => ?_)
        · replace h := h.2 q101
          refine J_iconst C dL_lines_118 ?_
          exact J_zret C (Nat.zero_le _) (Nat.zero_le _) (nar_z (Or.inl rfl)) dL_lines_119 (by rw [hF]; exact ⟨_, rfl, (Or.inl rfl), ⟨h, rfl⟩, rfl⟩)
        · replace h := h.1 q101
          refine J_iload_n C dL_lines_85 rfl 3 rfl ?_
          refine J_aload_n C dL_lines_86 rfl 0 rfl ?_
          refine J_iconst C dL_lines_87 ?_
          refine J_V C (ct_X9_told hs (rgN 4 (by decide)) h) ck_X9_told wm_L_47 win_X9_told wsel_X9_told (dmC hs kc0 (by decide)) (clE_k E s kc0) rfl ⟨rfl, rfl⟩ (by decide) (by decide) (As := [.int (jI 4)]) (rest := [.int (jI v21)]) rfl rfl (Nat.le_of_ble_eq_true rfl) dL_lines_88 (J_pI (fun v89 g91 h => ?_))
          refine J_icmp_le C g23 g91 (tgt := 99) dL_lines_91 (by decide) (fun q100 => ?_) (fun q100 => ?_)
          · replace h := h.1 q100
            exact J_sub [0, 1, 2, 3] rfl (j99 _ _ _ h g1 g2 g23)
          · replace h := h.2 q100
            refine J_iload C dL_lines_94 5 rfl ?_
            refine J_if_ne C g6_39 (tgt := 118) dL_lines_96 (by decide) (fun q99 => ?_) (fun q99 => ?_)
            · replace h := h.2 q99
              refine J_iconst C dL_lines_118 ?_
              exact J_zret C (Nat.zero_le _) (Nat.zero_le _) (nar_z (Or.inl rfl)) dL_lines_119 (by rw [hF]; exact ⟨_, rfl, (Or.inl rfl), ⟨h, rfl⟩, rfl⟩)
            · replace h := h.1 q99
              exact J_sub [0, 1, 2, 3] rfl (j99 _ _ _ h g1 g2 g23)
      · replace h := h.2 q110
        refine J_iload C dL_lines_45 5 rfl ?_
        refine J_if_ne C g6_39 (tgt := 66) dL_lines_47 (by decide) (fun q109 => ?_) (fun q109 => ?_)
        · replace h := h.2 q109
          exact J_sub [0, 1, 2, 3, 4, 6] rfl (j66 _ h g7_39)
        · replace h := h.1 q109
          refine J_aload_n C dL_lines_50 rfl 0 rfl ?_
          refine J_iload_n C dL_lines_51 rfl 1 rfl ?_
          refine J_iload_n C dL_lines_52 rfl 2 rfl ?_
          refine J_bipush C dL_lines_53 (by decide) ?_
          refine J_iload C dL_lines_55 6 rfl ?_
          refine J_iadd C dL_lines_57 ?_
          obtain ⟨g103, h⟩ := h
          refine J_V C (ct_X9_part hs g1 g2 g103 h) ck_X9_part wm_L_59 win_X9_part wsel_X9_part (dmC hs kc0 (by decide)) (clE_k E s kc0) rfl ⟨rfl, rfl⟩ (by decide) (by decide) (As := [.int (jI x1), .int (jI x2), .int (jI (10 + x7_39))]) (rest := []) rfl rfl (Nat.le_of_ble_eq_true rfl) dL_lines_58 (J_pI (fun v104 g106 h => ?_))
          refine J_bipush C dL_lines_61 (by decide) ?_
          refine J_icmp_ne C g106 (rgN 32 (by decide)) (tgt := 70) dL_lines_63 (by decide) (fun q108 => ?_) (fun q108 => ?_)
          · replace h := h.2 q108
            refine J_iconst C dL_lines_70 ?_
            exact J_sub [0, 1, 2, 3, 4, 6] rfl (j71 _ _ h g7_39 (rgN 0 (by decide)))
          · replace h := h.1 q108
            exact J_sub [0, 1, 2, 3, 4, 6] rfl (j66 _ h g7_39)
    )
    exact J_sub [5, 6, 7, 4, 3, 1, 0] rfl (h (rgN 0 (by decide)) (rgN 0 (by decide)))
set_option maxHeartbeats 4000000 in
set_option maxRecDepth 100000 in
theorem ct_L_isTooWide {l : Launch} {E : ET} (hs : eS E = true) {s : Sg} {x1 : Int} (g1 : rgI x1) {Q : Int → Prop} (h : wp_L_isTooWide x1 s Q) : MetE l E yL_isTooWide cL_isTooWide 5 (some .boolean) rm_L_isTooWide s [.ref (adE E 0), .int (jI x1)] (qZ (fun r t => Q r ∧ t = s) (gN s)) := by
  refine MetJ (by decide +kernel) (Nat.le_of_ble_eq_true rfl) ?_
  intro F hl C hF
  subst hl
  show JJ F E 0 0 s 0 [(0, .ref (adE E 0)), (1, .int (jI x1))] []
  refine J_iconst C dL_isTooWide_0 ?_
  refine J_istore_n C dL_isTooWide_1 rfl (by decide) (lv' := [(2, .int (jI 0)), (0, .ref (adE E 0)), (1, .int (jI x1))]) rfl ?_
  refine J_iconst C dL_isTooWide_2 ?_
  refine J_istore_n C dL_isTooWide_3 rfl (by decide) (lv' := [(3, .int (jI 0)), (2, .int (jI 0)), (0, .ref (adE E 0)), (1, .int (jI x1))]) rfl ?_
  replace h := h (fun (x2_4 : Int) (x3_4 : Int) => rgI x2_4 → rgI x3_4 → JJ F E 0 0 s 4 [(0, .ref (adE E 0)), (1, .int (jI x1)), (2, .int (jI x2_4)), (3, .int (jI x3_4))] []) (by
    intro x2_4 x3_4 h g2_4 g3_4
    have j83 : ∀ (x3 : Int) (t0_83 : Int), wj_L_isTooWide_83 (fun (x2_4 : Int) (x3_4 : Int) => rgI x2_4 → rgI x3_4 → JJ F E 0 0 s 4 [(0, .ref (adE E 0)), (1, .int (jI x1)), (2, .int (jI x2_4)), (3, .int (jI x3_4))] []) x1 x3 t0_83 s Q → rgI x3 → rgI t0_83 → JJ F E 0 0 s 83 [(0, .ref (adE E 0)), (1, .int (jI x1)), (3, .int (jI x3))] [.int (jI t0_83)] := by
      intro x3 t0_83 h g3 gt0_83
      refine J_istore_n C dL_isTooWide_83 rfl (by decide) (lv' := [(2, .int (jI t0_83)), (0, .ref (adE E 0)), (1, .int (jI x1)), (3, .int (jI x3))]) rfl ?_
      refine J_iinc C dL_isTooWide_84 3 rfl (by decide) (lv' := [(3, .int (jI (x3 + 1))), (2, .int (jI t0_83)), (0, .ref (adE E 0)), (1, .int (jI x1))]) rfl ?_
      refine J_goto C (tgt := 4) dL_isTooWide_87 (by decide) ?_
      obtain ⟨g38, h⟩ := h
      exact J_sub [2, 3, 1, 0] rfl (h gt0_83 g38)
    have j78 : ∀ (x3 : Int), wj_L_isTooWide_78 (fun (x2_4 : Int) (x3_4 : Int) => rgI x2_4 → rgI x3_4 → JJ F E 0 0 s 4 [(0, .ref (adE E 0)), (1, .int (jI x1)), (2, .int (jI x2_4)), (3, .int (jI x3_4))] []) x1 x3 s Q → rgI x3 → JJ F E 0 0 s 78 [(0, .ref (adE E 0)), (1, .int (jI x1)), (3, .int (jI x3))] [] := by
      intro x3 h g3
      refine J_iconst C dL_isTooWide_78 ?_
      refine J_goto C (tgt := 83) dL_isTooWide_79 (by decide) ?_
      exact J_sub [0, 1, 2] rfl (j83 _ _ h g3 (rgN 1 (by decide)))
    have j47 : ∀ (x2 : Int) (x3 : Int) (t0_47 : Int), wj_L_isTooWide_47 (fun (x2_4 : Int) (x3_4 : Int) => rgI x2_4 → rgI x3_4 → JJ F E 0 0 s 4 [(0, .ref (adE E 0)), (1, .int (jI x1)), (2, .int (jI x2_4)), (3, .int (jI x3_4))] []) x1 x2 x3 t0_47 s Q → rgI x2 → rgI x3 → rgI t0_47 → JJ F E 0 0 s 47 [(0, .ref (adE E 0)), (1, .int (jI x1)), (2, .int (jI x2)), (3, .int (jI x3))] [.int (jI t0_47)] := by
      intro x2 x3 t0_47 h g2 g3 gt0_47
      refine J_istore C dL_isTooWide_47 (by decide) (lv' := [(4, .int (jI t0_47)), (0, .ref (adE E 0)), (1, .int (jI x1)), (2, .int (jI x2)), (3, .int (jI x3))]) rfl ?_
      refine J_iload_n C dL_isTooWide_49 rfl 3 rfl ?_
      refine J_if_ne C g2 (tgt := 78) dL_isTooWide_50 (by decide) (fun q53 => ?_) (fun q53 => ?_)
      · replace h := h.2 q53
        exact J_sub [1, 2, 4] rfl (j78 _ h g3)
      · replace h := h.1 q53
        refine J_aload_n C dL_isTooWide_53 rfl 1 rfl ?_
        refine J_iload_n C dL_isTooWide_54 rfl 2 rfl ?_
        refine J_iload_n C dL_isTooWide_55 rfl 4 rfl ?_
        refine J_iconst C dL_isTooWide_56 ?_
        refine J_V C (ct_X9_part hs g1 g3 (rgN 2 (by decide)) h) ck_X9_part wm_L_59 win_X9_part wsel_X9_part (dmC hs kc0 (by decide)) (clE_k E s kc0) rfl ⟨rfl, rfl⟩ (by decide) (by decide) (As := [.int (jI x1), .int (jI x3), .int (jI 2)]) (rest := []) rfl rfl (Nat.le_of_ble_eq_true rfl) dL_isTooWide_57 (J_pI (fun v39 g41 h => ?_))
        refine J_aload_n C dL_isTooWide_60 rfl 1 rfl ?_
        refine J_iconst C dL_isTooWide_61 ?_
        refine J_V C (ct_X9_told hs (rgN 4 (by decide)) h) ck_X9_told wm_L_47 win_X9_told wsel_X9_told (dmC hs kc0 (by decide)) (clE_k E s kc0) rfl ⟨rfl, rfl⟩ (by decide) (by decide) (As := [.int (jI 4)]) (rest := [.int (jI v39)]) rfl rfl (Nat.le_of_ble_eq_true rfl) dL_isTooWide_62 (J_pI (fun v43 g45 h => ?_))
        refine J_icmp_gt C g41 g45 (tgt := 78) dL_isTooWide_65 (by decide) (fun q52 => ?_) (fun q52 => ?_)
        · replace h := h.1 q52
          exact J_sub [1, 2, 4] rfl (j78 _ h g3)
        · replace h := h.2 q52
          refine J_iload C dL_isTooWide_68 0 rfl ?_
          refine J_aload_n C dL_isTooWide_70 rfl 1 rfl ?_
          refine J_iconst C dL_isTooWide_71 ?_
          refine J_V C (ct_X9_told hs (rgN 4 (by decide)) h) ck_X9_told wm_L_47 win_X9_told wsel_X9_told (dmC hs kc0 (by decide)) (clE_k E s kc0) rfl ⟨rfl, rfl⟩ (by decide) (by decide) (As := [.int (jI 4)]) (rest := [.int (jI t0_47)]) rfl rfl (Nat.le_of_ble_eq_true rfl) dL_isTooWide_72 (J_pI (fun v47 g49 h => ?_))
          refine J_icmp_le C gt0_47 g49 (tgt := 82) dL_isTooWide_75 (by decide) (fun q51 => ?_) (fun q51 => ?_)
          · replace h := h.1 q51
            refine J_iconst C dL_isTooWide_82 ?_
            exact J_sub [1, 2, 4] rfl (j83 _ _ h g3 (rgN 0 (by decide)))
          · replace h := h.2 q51
            exact J_sub [1, 2, 4] rfl (j78 _ h g3)
    refine J_iload_n C dL_isTooWide_4 rfl 3 rfl ?_
    refine J_aload_n C dL_isTooWide_5 rfl 0 rfl ?_
    refine J_iload_n C dL_isTooWide_6 rfl 1 rfl ?_
    refine J_iconst C dL_isTooWide_7 ?_
    refine J_V C (ct_X9_subtitle hs g1 (rgN 2 (by decide)) h) ck_X9_subtitle wm_L_33 win_X9_subtitle wsel_X9_subtitle (dmC hs kc0 (by decide)) (clE_k E s kc0) rfl ⟨rfl, rfl⟩ (by decide) (by decide) (As := [.int (jI x1), .int (jI 2)]) (rest := [.int (jI x3_4)]) rfl rfl (Nat.le_of_ble_eq_true rfl) dL_isTooWide_8 (J_pI (fun v21 g23 h => ?_))
    refine J_icmp_ge C g3_4 g23 (tgt := 90) dL_isTooWide_11 (by decide) (fun q56 => ?_) (fun q56 => ?_)
    · replace h := h.1 q56
      refine J_iload_n C dL_isTooWide_90 rfl 2 rfl ?_
      obtain ⟨g25, h⟩ := h
      exact J_zret C (Nat.zero_le _) (Nat.zero_le _) (nar_z g25) dL_isTooWide_91 (by rw [hF]; exact ⟨_, rfl, g25, ⟨h, rfl⟩, rfl⟩)
    · replace h := h.2 q56
      refine J_aload_n C dL_isTooWide_14 rfl 0 rfl ?_
      refine J_iload_n C dL_isTooWide_15 rfl 1 rfl ?_
      refine J_iload_n C dL_isTooWide_16 rfl 3 rfl ?_
      refine J_iconst C dL_isTooWide_17 ?_
      refine J_V C (ct_X9_part hs g1 g3_4 (rgN 3 (by decide)) h) ck_X9_part wm_L_59 win_X9_part wsel_X9_part (dmC hs kc0 (by decide)) (clE_k E s kc0) rfl ⟨rfl, rfl⟩ (by decide) (by decide) (As := [.int (jI x1), .int (jI x3_4), .int (jI 3)]) (rest := []) rfl rfl (Nat.le_of_ble_eq_true rfl) dL_isTooWide_18 (J_pI (fun v26 g28 h => ?_))
      refine J_bipush C dL_isTooWide_21 (by decide) ?_
      refine J_icmp_ne C g28 (rgN (-9) (by decide)) (tgt := 30) dL_isTooWide_23 (by decide) (fun q55 => ?_) (fun q55 => ?_)
      · replace h := h.2 q55
        refine J_aload_n C dL_isTooWide_30 rfl 0 rfl ?_
        refine J_iload_n C dL_isTooWide_31 rfl 1 rfl ?_
        refine J_iload_n C dL_isTooWide_32 rfl 3 rfl ?_
        refine J_iconst C dL_isTooWide_33 ?_
        refine J_V C (ct_X9_part hs g1 g3_4 (rgN 1 (by decide)) h) ck_X9_part wm_L_59 win_X9_part wsel_X9_part (dmC hs kc0 (by decide)) (clE_k E s kc0) rfl ⟨rfl, rfl⟩ (by decide) (by decide) (As := [.int (jI x1), .int (jI x3_4), .int (jI 1)]) (rest := []) rfl rfl (Nat.le_of_ble_eq_true rfl) dL_isTooWide_34 (J_pI (fun v30 g32 h => ?_))
        refine J_aload_n C dL_isTooWide_37 rfl 0 rfl ?_
        refine J_iload_n C dL_isTooWide_38 rfl 1 rfl ?_
        refine J_iload_n C dL_isTooWide_39 rfl 3 rfl ?_
        refine J_iconst C dL_isTooWide_40 ?_
        refine J_V C (ct_X9_part hs g1 g3_4 (rgN 2 (by decide)) h) ck_X9_part wm_L_59 win_X9_part wsel_X9_part (dmC hs kc0 (by decide)) (clE_k E s kc0) rfl ⟨rfl, rfl⟩ (by decide) (by decide) (As := [.int (jI x1), .int (jI x3_4), .int (jI 2)]) (rest := [.int (jI v30)]) rfl rfl (Nat.le_of_ble_eq_true rfl) dL_isTooWide_41 (J_pI (fun v34 g36 h => ?_))
        refine J_isub C dL_isTooWide_44 ?_
        refine J_iconst C dL_isTooWide_45 ?_
        refine J_isub C dL_isTooWide_46 ?_
        obtain ⟨g54, h⟩ := h
        exact J_sub [0, 1, 2, 3] rfl (j47 _ _ _ h g2_4 g3_4 g54)
      · replace h := h.1 q55
        refine J_iconst C dL_isTooWide_26 ?_
        refine J_goto C (tgt := 47) dL_isTooWide_27 (by decide) ?_
        exact J_sub [0, 1, 2, 3] rfl (j47 _ _ _ h g2_4 g3_4 (rgN 0 (by decide)))
  )
  exact J_sub [2, 3, 1, 0] rfl (h (rgN 0 (by decide)) (rgN 0 (by decide)))
set_option maxHeartbeats 4000000 in
set_option maxRecDepth 100000 in
theorem ct_L_away {l : Launch} {E : ET} (hs : eS E = true) {s : Sg} {x1 : Int} (g1 : rgI x1) {Q : Int → Prop} (h : wp_L_away x1 s Q) : MetE l E yL_away cL_away 5 (some .int) rm_L_away s [.ref (adE E 0), .int (jI x1)] (qI (fun r t => Q r ∧ t = s) (gN s)) := by
  refine MetJ (by decide +kernel) (Nat.le_of_ble_eq_true rfl) ?_
  intro F hl C hF
  subst hl
  show JJ F E 0 0 s 0 [(0, .ref (adE E 0)), (1, .int (jI x1))] []
  refine J_sipush C dL_away_0 (by decide) ?_
  refine J_istore_n C dL_away_3 rfl (by decide) (lv' := [(2, .int (jI 20000)), (0, .ref (adE E 0)), (1, .int (jI x1))]) rfl ?_
  refine J_iconst C dL_away_4 ?_
  refine J_istore_n C dL_away_5 rfl (by decide) (lv' := [(3, .int (jI 0)), (2, .int (jI 20000)), (0, .ref (adE E 0)), (1, .int (jI x1))]) rfl ?_
  replace h := h (fun (x2_6 : Int) (x3_6 : Int) => rgI x2_6 → rgI x3_6 → JJ F E 0 0 s 6 [(0, .ref (adE E 0)), (1, .int (jI x1)), (2, .int (jI x2_6)), (3, .int (jI x3_6))] []) (by
    intro x2_6 x3_6 h g2_6 g3_6
    have j56 : ∀ (x3 : Int) (t0_56 : Int), wj_L_away_56 (fun (x2_6 : Int) (x3_6 : Int) => rgI x2_6 → rgI x3_6 → JJ F E 0 0 s 6 [(0, .ref (adE E 0)), (1, .int (jI x1)), (2, .int (jI x2_6)), (3, .int (jI x3_6))] []) x1 x3 t0_56 s Q → rgI x3 → rgI t0_56 → JJ F E 0 0 s 56 [(0, .ref (adE E 0)), (1, .int (jI x1)), (3, .int (jI x3))] [.int (jI t0_56)] := by
      intro x3 t0_56 h g3 gt0_56
      refine J_istore_n C dL_away_56 rfl (by decide) (lv' := [(2, .int (jI t0_56)), (0, .ref (adE E 0)), (1, .int (jI x1)), (3, .int (jI x3))]) rfl ?_
      refine J_iinc C dL_away_57 3 rfl (by decide) (lv' := [(3, .int (jI (x3 + 1))), (2, .int (jI t0_56)), (0, .ref (adE E 0)), (1, .int (jI x1))]) rfl ?_
      refine J_goto C (tgt := 6) dL_away_60 (by decide) ?_
      obtain ⟨g33, h⟩ := h
      exact J_sub [2, 3, 1, 0] rfl (h gt0_56 g33)
    have j42 : ∀ (x2 : Int) (x3 : Int) (t0_42 : Int), wj_L_away_42 (fun (x2_6 : Int) (x3_6 : Int) => rgI x2_6 → rgI x3_6 → JJ F E 0 0 s 6 [(0, .ref (adE E 0)), (1, .int (jI x1)), (2, .int (jI x2_6)), (3, .int (jI x3_6))] []) x1 x2 x3 t0_42 s Q → rgI x2 → rgI x3 → rgI t0_42 → JJ F E 0 0 s 42 [(0, .ref (adE E 0)), (1, .int (jI x1)), (2, .int (jI x2)), (3, .int (jI x3))] [.int (jI t0_42)] := by
      intro x2 x3 t0_42 h g2 g3 gt0_42
      refine J_istore C dL_away_42 (by decide) (lv' := [(4, .int (jI t0_42)), (0, .ref (adE E 0)), (1, .int (jI x1)), (2, .int (jI x2)), (3, .int (jI x3))]) rfl ?_
      refine J_iload C dL_away_44 0 rfl ?_
      refine J_iload_n C dL_away_46 rfl 3 rfl ?_
      refine J_icmp_ge C gt0_42 g2 (tgt := 55) dL_away_47 (by decide) (fun q34 => ?_) (fun q34 => ?_)
      · replace h := h.1 q34
        refine J_iload_n C dL_away_55 rfl 3 rfl ?_
        exact J_sub [1, 2, 4] rfl (j56 _ _ h g3 g2)
      · replace h := h.2 q34
        refine J_iload C dL_away_50 0 rfl ?_
        refine J_goto C (tgt := 56) dL_away_52 (by decide) ?_
        exact J_sub [1, 2, 4] rfl (j56 _ _ h g3 gt0_42)
    refine J_iload_n C dL_away_6 rfl 3 rfl ?_
    refine J_aload_n C dL_away_7 rfl 0 rfl ?_
    refine J_bipush C dL_away_8 (by decide) ?_
    refine J_V C (ct_X9_told hs (rgN 7 (by decide)) h) ck_X9_told wm_L_47 win_X9_told wsel_X9_told (dmC hs kc0 (by decide)) (clE_k E s kc0) rfl ⟨rfl, rfl⟩ (by decide) (by decide) (As := [.int (jI 7)]) (rest := [.int (jI x3_6)]) rfl rfl (Nat.le_of_ble_eq_true rfl) dL_away_10 (J_pI (fun v21 g23 h => ?_))
    refine J_icmp_ge C g3_6 g23 (tgt := 63) dL_away_13 (by decide) (fun q42 => ?_) (fun q42 => ?_)
    · replace h := h.1 q42
      refine J_iload_n C dL_away_63 rfl 2 rfl ?_
      exact J_iret C (Nat.zero_le _) (Nat.zero_le _) dL_away_64 (by rw [hF]; exact ⟨_, rfl, g2_6, ⟨h, rfl⟩, rfl⟩)
    · replace h := h.2 q42
      refine J_aload_n C dL_away_16 rfl 0 rfl ?_
      refine J_iload_n C dL_away_17 rfl 3 rfl ?_
      refine J_V C (ct_X9_shotAt hs g3_6 h) ck_X9_shotAt wm_L_62 win_X9_shotAt wsel_X9_shotAt (dmC hs kc0 (by decide)) (clE_k E s kc0) rfl ⟨rfl, rfl⟩ (by decide) (by decide) (As := [.int (jI x3_6)]) (rest := []) rfl rfl (Nat.le_of_ble_eq_true rfl) dL_away_18 (J_pI (fun v25 g27 h => ?_))
      refine J_iload_n C dL_away_21 rfl 1 rfl ?_
      refine J_icmp_le C g27 g1 (tgt := 35) dL_away_22 (by decide) (fun q41 => ?_) (fun q41 => ?_)
      · replace h := h.1 q41
        refine J_iload_n C dL_away_35 rfl 1 rfl ?_
        refine J_aload_n C dL_away_36 rfl 0 rfl ?_
        refine J_iload_n C dL_away_37 rfl 3 rfl ?_
        refine J_V C (ct_X9_shotAt hs g3_6 h) ck_X9_shotAt wm_L_62 win_X9_shotAt wsel_X9_shotAt (dmC hs kc0 (by decide)) (clE_k E s kc0) rfl ⟨rfl, rfl⟩ (by decide) (by decide) (As := [.int (jI x3_6)]) (rest := [.int (jI x1)]) rfl rfl (Nat.le_of_ble_eq_true rfl) dL_away_38 (J_pI (fun v29 g31 h => ?_))
        refine J_isub C dL_away_41 ?_
        obtain ⟨g35, h⟩ := h
        exact J_sub [0, 1, 2, 3] rfl (j42 _ _ _ h g2_6 g3_6 g35)
      · replace h := h.2 q41
        refine J_aload_n C dL_away_25 rfl 0 rfl ?_
        refine J_iload_n C dL_away_26 rfl 3 rfl ?_
        refine J_V C (ct_X9_shotAt hs g3_6 h) ck_X9_shotAt wm_L_62 win_X9_shotAt wsel_X9_shotAt (dmC hs kc0 (by decide)) (clE_k E s kc0) rfl ⟨rfl, rfl⟩ (by decide) (by decide) (As := [.int (jI x3_6)]) (rest := []) rfl rfl (Nat.le_of_ble_eq_true rfl) dL_away_27 (J_pI (fun v36 g38 h => ?_))
        refine J_iload_n C dL_away_30 rfl 1 rfl ?_
        refine J_isub C dL_away_31 ?_
        refine J_goto C (tgt := 42) dL_away_32 (by decide) ?_
        obtain ⟨g40, h⟩ := h
        exact J_sub [0, 1, 2, 3] rfl (j42 _ _ _ h g2_6 g3_6 g40)
  )
  exact J_sub [2, 3, 1, 0] rfl (h (rgN 20000 (by decide)) (rgN 0 (by decide)))
set_option maxHeartbeats 4000000 in
set_option maxRecDepth 100000 in
theorem ct_L_isNear {l : Launch} {E : ET} (hs : eS E = true) {s : Sg} {x1 : Int} (g1 : rgI x1) {Q : Int → Prop} (h : wp_L_isNear x1 s Q) : MetE l E yL_isNear cL_isNear 3 (some .boolean) rm_L_isNear s [.ref (adE E 0), .int (jI x1)] (qZ (fun r t => Q r ∧ t = s) (gN s)) := by
  refine MetJ (by decide +kernel) (Nat.le_of_ble_eq_true rfl) ?_
  intro F hl C hF
  subst hl
  show JJ F E 0 0 s 0 [(0, .ref (adE E 0)), (1, .int (jI x1))] []
  refine J_aload_n C dL_isNear_0 rfl 0 rfl ?_
  refine J_iload_n C dL_isNear_1 rfl 1 rfl ?_
  refine J_S C (ct_L_away hs g1 h) ck_L_away wm_L_65 wst_L_away ⟨rfl, rfl⟩ (by decide) (by decide) (As := [.ref (adE E 0), .int (jI x1)]) (rest := []) rfl rfl (Nat.le_of_ble_eq_true rfl) dL_isNear_2 (J_pI (fun v21 g23 h => ?_))
  refine J_istore_n C dL_isNear_5 rfl (by decide) (lv' := [(2, .int (jI v21)), (0, .ref (adE E 0)), (1, .int (jI x1))]) rfl ?_
  refine J_iload_n C dL_isNear_6 rfl 0 rfl ?_
  refine J_if_le C g23 (tgt := 23) dL_isNear_7 (by decide) (fun q30 => ?_) (fun q30 => ?_)
  · replace h := h.1 q30
    refine J_iconst C dL_isNear_23 ?_
    exact J_zret C (Nat.zero_le _) (Nat.zero_le _) (nar_z (Or.inl rfl)) dL_isNear_24 (by rw [hF]; exact ⟨_, rfl, (Or.inl rfl), ⟨h, rfl⟩, rfl⟩)
  · replace h := h.2 q30
    refine J_iload_n C dL_isNear_10 rfl 0 rfl ?_
    refine J_aload_n C dL_isNear_11 rfl 1 rfl ?_
    refine J_iconst C dL_isNear_12 ?_
    refine J_V C (ct_X9_told hs (rgN 3 (by decide)) h) ck_X9_told wm_L_47 win_X9_told wsel_X9_told (dmC hs kc0 (by decide)) (clE_k E s kc0) rfl ⟨rfl, rfl⟩ (by decide) (by decide) (As := [.int (jI 3)]) (rest := [.int (jI v21)]) rfl rfl (Nat.le_of_ble_eq_true rfl) dL_isNear_13 (J_pI (fun v25 g27 h => ?_))
    refine J_icmp_gt C g23 g27 (tgt := 23) dL_isNear_16 (by decide) (fun q29 => ?_) (fun q29 => ?_)
    · replace h := h.1 q29
      refine J_iconst C dL_isNear_23 ?_
      exact J_zret C (Nat.zero_le _) (Nat.zero_le _) (nar_z (Or.inl rfl)) dL_isNear_24 (by rw [hF]; exact ⟨_, rfl, (Or.inl rfl), ⟨h, rfl⟩, rfl⟩)
    · replace h := h.2 q29
      refine J_iconst C dL_isNear_19 ?_
      refine J_goto C (tgt := 24) dL_isNear_20 (by decide) ?_
      exact J_zret C (Nat.zero_le _) (Nat.zero_le _) (nar_z (Or.inr rfl)) dL_isNear_24 (by rw [hF]; exact ⟨_, rfl, (Or.inr rfl), ⟨h, rfl⟩, rfl⟩)
