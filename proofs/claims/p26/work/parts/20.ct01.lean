/-! contracts (printed by wip/whole/gen) -/
set_option maxHeartbeats 4000000 in
set_option maxRecDepth 100000 in
theorem ct_X2_rankOf {l : Launch} {E : ET} (hs : eS E = true) {s : Sg} {r0 : Nat} (k0 : okP s r0) {x1 : Int} (g1 : rgI x1) {Q : Int → Prop} (h : wp_X2_rankOf r0 x1 s Q) : MetE l E yX2_rankOf cX2_rankOf 4 (some .int) rm_X2_rankOf s [.ref (adE E r0), .int (jI x1)] (qI (fun r t => Q r ∧ t = s) (gN s)) := by
  refine MetJ (by decide +kernel) (Nat.le_of_ble_eq_true rfl) ?_
  intro F hl C hF
  subst hl
  show JJ F E 0 0 s 0 [(0, .ref (adE E r0)), (1, .int (jI x1))] []
  refine J_aload_n C dX2_rankOf_0 rfl 0 rfl ?_
  refine J_iload_n C dX2_rankOf_1 rfl 1 rfl ?_
  refine J_iconst C dX2_rankOf_2 ?_
  refine J_isub C dX2_rankOf_3 ?_
  obtain ⟨g21, h⟩ := h
  refine J_V C (ct_X2_byteAt hs k0 g21 h) ck_X2_byteAt wm_X2_41 win_X2_byteAt wsel_X2_byteAt (dm_p hs k0) (clE_k E s k0.1) rfl ⟨rfl, rfl⟩ (by decide) (by decide) (As := [.int (jI (x1 - 1))]) (rest := []) rfl rfl (Nat.le_of_ble_eq_true rfl) dX2_rankOf_4 (J_pI (fun v22 g24 h => ?_))
  refine J_istore_n C dX2_rankOf_7 rfl (by decide) (lv' := [(2, .int (jI v22)), (0, .ref (adE E r0)), (1, .int (jI x1))]) rfl ?_
  refine J_iload_n C dX2_rankOf_8 rfl 0 rfl ?_
  refine J_bipush C dX2_rankOf_9 (by decide) ?_
  refine J_icmp_eq C g24 (rgN 46 (by decide)) (tgt := 26) dX2_rankOf_11 (by decide) (fun q46 => ?_) (fun q46 => ?_)
  · replace h := h.1 q46
    refine J_iconst C dX2_rankOf_26 ?_
    exact J_iret C (Nat.zero_le _) (Nat.zero_le _) dX2_rankOf_27 (by rw [hF]; exact ⟨_, rfl, (rgN 0 (by decide)), ⟨h, rfl⟩, rfl⟩)
  · replace h := h.2 q46
    refine J_iload_n C dX2_rankOf_14 rfl 0 rfl ?_
    refine J_bipush C dX2_rankOf_15 (by decide) ?_
    refine J_icmp_eq C g24 (rgN 33 (by decide)) (tgt := 26) dX2_rankOf_17 (by decide) (fun q45 => ?_) (fun q45 => ?_)
    · replace h := h.1 q45
      refine J_iconst C dX2_rankOf_26 ?_
      exact J_iret C (Nat.zero_le _) (Nat.zero_le _) dX2_rankOf_27 (by rw [hF]; exact ⟨_, rfl, (rgN 0 (by decide)), ⟨h, rfl⟩, rfl⟩)
    · replace h := h.2 q45
      refine J_iload_n C dX2_rankOf_20 rfl 0 rfl ?_
      refine J_bipush C dX2_rankOf_21 (by decide) ?_
      refine J_icmp_ne C g24 (rgN 63 (by decide)) (tgt := 28) dX2_rankOf_23 (by decide) (fun q44 => ?_) (fun q44 => ?_)
      · replace h := h.2 q44
        refine J_iload_n C dX2_rankOf_28 rfl 0 rfl ?_
        refine J_bipush C dX2_rankOf_29 (by decide) ?_
        refine J_icmp_eq C g24 (rgN 44 (by decide)) (tgt := 40) dX2_rankOf_31 (by decide) (fun q43 => ?_) (fun q43 => ?_)
        · replace h := h.1 q43
          refine J_iconst C dX2_rankOf_40 ?_
          exact J_iret C (Nat.zero_le _) (Nat.zero_le _) dX2_rankOf_41 (by rw [hF]; exact ⟨_, rfl, (rgN 1 (by decide)), ⟨h, rfl⟩, rfl⟩)
        · replace h := h.2 q43
          refine J_iload_n C dX2_rankOf_34 rfl 0 rfl ?_
          refine J_bipush C dX2_rankOf_35 (by decide) ?_
          refine J_icmp_ne C g24 (rgN 58 (by decide)) (tgt := 42) dX2_rankOf_37 (by decide) (fun q42 => ?_) (fun q42 => ?_)
          · replace h := h.2 q42
            refine J_iload_n C dX2_rankOf_42 rfl 2 rfl ?_
            refine J_iconst C dX2_rankOf_43 ?_
            refine J_iadd C dX2_rankOf_44 ?_
            obtain ⟨x3_45, e26⟩ : ∃ v : Int, v = (x1 + 1) := ⟨_, rfl⟩
            obtain ⟨g3_45, h⟩ := h x3_45 e26
            refine J_top e26 ?_
            refine J_istore_n C dX2_rankOf_45 rfl (by decide) (lv' := [(3, .int (jI x3_45)), (2, .int (jI v22)), (0, .ref (adE E r0)), (1, .int (jI x1))]) rfl ?_
            refine J_aload_n C dX2_rankOf_46 rfl 2 rfl ?_
            refine J_iload_n C dX2_rankOf_47 rfl 0 rfl ?_
            refine J_ldcS0 C dX2_rankOf_48 ?_
            refine J_V C (ct_X2_isWord hs k0 g3_45 (by decide) h) ck_X2_isWord wm_X2_46 win_X2_isWord wsel_X2_isWord (dm_p hs k0) (clE_k E s k0.1) rfl ⟨rfl, rfl⟩ (by decide) (by decide) (As := [.int (jI x3_45), .ref (ea E 0)]) (rest := []) rfl rfl (Nat.le_of_ble_eq_true rfl) dX2_rankOf_50 (J_pZ (fun v27 g29 h => ?_))
            refine J_if_ne C (rg_z g29) (tgt := 76) dX2_rankOf_53 (by decide) (fun q41 => ?_) (fun q41 => ?_)
            · replace h := h.2 q41
              refine J_iconst C dX2_rankOf_76 ?_
              refine J_goto C (tgt := 81) dX2_rankOf_77 (by decide) ?_
              exact J_iret C (Nat.zero_le _) (Nat.zero_le _) dX2_rankOf_81 (by rw [hF]; exact ⟨_, rfl, (rgN 2 (by decide)), ⟨h, rfl⟩, rfl⟩)
            · replace h := h.1 q41
              refine J_aload_n C dX2_rankOf_56 rfl 2 rfl ?_
              refine J_iload_n C dX2_rankOf_57 rfl 0 rfl ?_
              refine J_ldcS1 C dX2_rankOf_58 ?_
              refine J_V C (ct_X2_isWord hs k0 g3_45 (by decide) h) ck_X2_isWord wm_X2_46 win_X2_isWord wsel_X2_isWord (dm_p hs k0) (clE_k E s k0.1) rfl ⟨rfl, rfl⟩ (by decide) (by decide) (As := [.int (jI x3_45), .ref (ea E 1)]) (rest := []) rfl rfl (Nat.le_of_ble_eq_true rfl) dX2_rankOf_60 (J_pZ (fun v31 g33 h => ?_))
              refine J_if_ne C (rg_z g33) (tgt := 76) dX2_rankOf_63 (by decide) (fun q40 => ?_) (fun q40 => ?_)
              · replace h := h.2 q40
                refine J_iconst C dX2_rankOf_76 ?_
                refine J_goto C (tgt := 81) dX2_rankOf_77 (by decide) ?_
                exact J_iret C (Nat.zero_le _) (Nat.zero_le _) dX2_rankOf_81 (by rw [hF]; exact ⟨_, rfl, (rgN 2 (by decide)), ⟨h, rfl⟩, rfl⟩)
              · replace h := h.1 q40
                refine J_aload_n C dX2_rankOf_66 rfl 2 rfl ?_
                refine J_iload_n C dX2_rankOf_67 rfl 0 rfl ?_
                refine J_ldcS2 C dX2_rankOf_68 ?_
                refine J_V C (ct_X2_isWord hs k0 g3_45 (by decide) h) ck_X2_isWord wm_X2_46 win_X2_isWord wsel_X2_isWord (dm_p hs k0) (clE_k E s k0.1) rfl ⟨rfl, rfl⟩ (by decide) (by decide) (As := [.int (jI x3_45), .ref (ea E 2)]) (rest := []) rfl rfl (Nat.le_of_ble_eq_true rfl) dX2_rankOf_70 (J_pZ (fun v35 g37 h => ?_))
                refine J_if_eq C (rg_z g37) (tgt := 80) dX2_rankOf_73 (by decide) (fun q39 => ?_) (fun q39 => ?_)
                · replace h := h.1 q39
                  refine J_iconst C dX2_rankOf_80 ?_
                  exact J_iret C (Nat.zero_le _) (Nat.zero_le _) dX2_rankOf_81 (by rw [hF]; exact ⟨_, rfl, (rgN 3 (by decide)), ⟨h, rfl⟩, rfl⟩)
                · replace h := h.2 q39
                  refine J_iconst C dX2_rankOf_76 ?_
                  refine J_goto C (tgt := 81) dX2_rankOf_77 (by decide) ?_
                  exact J_iret C (Nat.zero_le _) (Nat.zero_le _) dX2_rankOf_81 (by rw [hF]; exact ⟨_, rfl, (rgN 2 (by decide)), ⟨h, rfl⟩, rfl⟩)
          · replace h := h.1 q42
            refine J_iconst C dX2_rankOf_40 ?_
            exact J_iret C (Nat.zero_le _) (Nat.zero_le _) dX2_rankOf_41 (by rw [hF]; exact ⟨_, rfl, (rgN 1 (by decide)), ⟨h, rfl⟩, rfl⟩)
      · replace h := h.1 q44
        refine J_iconst C dX2_rankOf_26 ?_
        exact J_iret C (Nat.zero_le _) (Nat.zero_le _) dX2_rankOf_27 (by rw [hF]; exact ⟨_, rfl, (rgN 0 (by decide)), ⟨h, rfl⟩, rfl⟩)
set_option maxHeartbeats 4000000 in
set_option maxRecDepth 100000 in
theorem ct_X2_brokenAt {l : Launch} {E : ET} (hs : eS E = true) {s : Sg} {r0 : Nat} (k0 : okP s r0) {x1 : Int} (g1 : rgI x1) {Q : Int → Prop} (h : wp_X2_brokenAt r0 x1 s Q) : MetE l E yX2_brokenAt cX2_brokenAt 8 (some .int) rm_X2_brokenAt s [.ref (adE E r0), .int (jI x1)] (qI (fun r t => Q r ∧ t = s) (gN s)) := by
  refine MetJ (by decide +kernel) (Nat.le_of_ble_eq_true rfl) ?_
  intro F hl C hF
  subst hl
  show JJ F E 0 0 s 0 [(0, .ref (adE E r0)), (1, .int (jI x1))] []
  refine J_bipush C dX2_brokenAt_0 (by decide) ?_
  refine J_istore_n C dX2_brokenAt_2 rfl (by decide) (lv' := [(2, .int (jI (-9))), (0, .ref (adE E r0)), (1, .int (jI x1))]) rfl ?_
  refine J_iconst C dX2_brokenAt_3 ?_
  refine J_istore_n C dX2_brokenAt_4 rfl (by decide) (lv' := [(3, .int (jI 0)), (2, .int (jI (-9))), (0, .ref (adE E r0)), (1, .int (jI x1))]) rfl ?_
  refine J_aload_n C dX2_brokenAt_5 rfl 2 rfl ?_
  refine gf_X2_text C hs k0 wf_X2_24 dX2_brokenAt_6 ?_
  refine J_alenT C hs k0 dX2_brokenAt_9 (fun g21 => ?_)
  refine J_iload_n C dX2_brokenAt_10 rfl 3 rfl ?_
  refine J_icmp_gt C g21 g1 (tgt := 16) dX2_brokenAt_11 (by decide) (fun q44 => ?_) (fun q44 => ?_)
  · replace h := h.1 q44
    refine J_iconst C dX2_brokenAt_16 ?_
    refine J_istore C dX2_brokenAt_17 (by decide) (lv' := [(4, .int (jI 0)), (3, .int (jI 0)), (2, .int (jI (-9))), (0, .ref (adE E r0)), (1, .int (jI x1))]) rfl ?_
    replace h := h (fun (x2_19 : Int) (x3_19 : Int) (x4_19 : Int) => rgI x2_19 → rgI x3_19 → rgI x4_19 → JJ F E 0 0 s 19 [(0, .ref (adE E r0)), (1, .int (jI x1)), (2, .int (jI x2_19)), (3, .int (jI x3_19)), (4, .int (jI x4_19))] []) (by
      intro x2_19 x3_19 x4_19 h g2_19 g3_19 g4_19
      have j114 : ∀ (x2 : Int) (x3 : Int) (x4 : Int), wj_X2_brokenAt_114 (fun (x2_19 : Int) (x3_19 : Int) (x4_19 : Int) => rgI x2_19 → rgI x3_19 → rgI x4_19 → JJ F E 0 0 s 19 [(0, .ref (adE E r0)), (1, .int (jI x1)), (2, .int (jI x2_19)), (3, .int (jI x3_19)), (4, .int (jI x4_19))] []) r0 x1 x2 x3 x4 s Q → rgI x2 → rgI x3 → rgI x4 → JJ F E 0 0 s 114 [(0, .ref (adE E r0)), (1, .int (jI x1)), (2, .int (jI x2)), (3, .int (jI x3)), (4, .int (jI x4))] [] := by
        intro x2 x3 x4 h g2 g3 g4
        refine J_iinc C dX2_brokenAt_114 4 rfl (by decide) (lv' := [(4, .int (jI (x4 + 1))), (0, .ref (adE E r0)), (1, .int (jI x1)), (2, .int (jI x2)), (3, .int (jI x3))]) rfl ?_
        refine J_goto C (tgt := 19) dX2_brokenAt_117 (by decide) ?_
        obtain ⟨g36, h⟩ := h
        exact J_sub [1, 2, 3, 4, 0] rfl (h g2 g3 g36)
      have j108 : ∀ (x4 : Int) (x7 : Int), wj_X2_brokenAt_108 (fun (x2_19 : Int) (x3_19 : Int) (x4_19 : Int) => rgI x2_19 → rgI x3_19 → rgI x4_19 → JJ F E 0 0 s 19 [(0, .ref (adE E r0)), (1, .int (jI x1)), (2, .int (jI x2_19)), (3, .int (jI x3_19)), (4, .int (jI x4_19))] []) r0 x1 x4 x7 s Q → rgI x4 → rgI x7 → JJ F E 0 0 s 108 [(0, .ref (adE E r0)), (1, .int (jI x1)), (4, .int (jI x4)), (7, .int (jI x7))] [] := by
        intro x4 x7 h g4 g7
        refine J_iload C dX2_brokenAt_108 2 rfl ?_
        refine J_istore_n C dX2_brokenAt_110 rfl (by decide) (lv' := [(2, .int (jI x4)), (0, .ref (adE E r0)), (1, .int (jI x1)), (4, .int (jI x4)), (7, .int (jI x7))]) rfl ?_
        refine J_iload C dX2_brokenAt_111 4 rfl ?_
        refine J_istore_n C dX2_brokenAt_113 rfl (by decide) (lv' := [(3, .int (jI x7)), (2, .int (jI x4)), (0, .ref (adE E r0)), (1, .int (jI x1)), (4, .int (jI x4)), (7, .int (jI x7))]) rfl ?_
        exact J_sub [2, 3, 1, 0, 4] rfl (j114 _ _ _ h g4 g7 g4)
      have j94 : ∀ (x2 : Int) (x3 : Int) (x4 : Int) (t0 : Int), wj_X2_brokenAt_94 (fun (x2_19 : Int) (x3_19 : Int) (x4_19 : Int) => rgI x2_19 → rgI x3_19 → rgI x4_19 → JJ F E 0 0 s 19 [(0, .ref (adE E r0)), (1, .int (jI x1)), (2, .int (jI x2_19)), (3, .int (jI x3_19)), (4, .int (jI x4_19))] []) r0 x1 x2 x3 x4 t0 s Q → rgI x2 → rgI x3 → rgI x4 → rgI t0 → JJ F E 0 0 s 94 [(0, .ref (adE E r0)), (1, .int (jI x1)), (2, .int (jI x2)), (3, .int (jI x3)), (4, .int (jI x4))] [.int (jI t0)] := by
        intro x2 x3 x4 t0 h g2 g3 g4 gt0
        refine J_istore C dX2_brokenAt_94 (by decide) (lv' := [(7, .int (jI t0)), (0, .ref (adE E r0)), (1, .int (jI x1)), (2, .int (jI x2)), (3, .int (jI x3)), (4, .int (jI x4))]) rfl ?_
        refine J_iload_n C dX2_brokenAt_96 rfl 3 rfl ?_
        refine J_bipush C dX2_brokenAt_97 (by decide) ?_
        refine J_icmp_eq C g2 (rgN (-9) (by decide)) (tgt := 108) dX2_brokenAt_99 (by decide) (fun q38 => ?_) (fun q38 => ?_)
        · replace h := h.1 q38
          exact J_sub [1, 2, 5, 0] rfl (j108 _ _ h g4 gt0)
        · replace h := h.2 q38
          refine J_iload C dX2_brokenAt_102 0 rfl ?_
          refine J_iload_n C dX2_brokenAt_104 rfl 4 rfl ?_
          refine J_icmp_ge C gt0 g3 (tgt := 114) dX2_brokenAt_105 (by decide) (fun q37 => ?_) (fun q37 => ?_)
          · replace h := h.1 q37
            exact J_sub [1, 2, 3, 4, 5] rfl (j114 _ _ _ h g2 g3 g4)
          · replace h := h.2 q37
            exact J_sub [1, 2, 5, 0] rfl (j108 _ _ h g4 gt0)
      refine J_iload C dX2_brokenAt_19 4 rfl ?_
      refine J_aload_n C dX2_brokenAt_21 rfl 0 rfl ?_
      refine gf_X2_text C hs k0 wf_X2_24 dX2_brokenAt_22 ?_
      refine J_alenT C hs k0 dX2_brokenAt_25 (fun g22 => ?_)
      refine J_icmp_ge C g4_19 g22 (tgt := 120) dX2_brokenAt_26 (by decide) (fun q43 => ?_) (fun q43 => ?_)
      · replace h := h.1 q43
        refine J_iload_n C dX2_brokenAt_120 rfl 2 rfl ?_
        exact J_iret C (Nat.zero_le _) (Nat.zero_le _) dX2_brokenAt_121 (by rw [hF]; exact ⟨_, rfl, g2_19, ⟨h, rfl⟩, rfl⟩)
      · replace h := h.2 q43
        refine J_aload_n C dX2_brokenAt_29 rfl 0 rfl ?_
        refine gf_X2_text C hs k0 wf_X2_24 dX2_brokenAt_30 ?_
        refine J_iload C dX2_brokenAt_33 4 rfl ?_
        obtain ⟨b23, b24, h⟩ := h
        refine J_baldT C hs k0 b23 b24 dX2_brokenAt_35 (fun g25 => ?_)
        refine J_bipush C dX2_brokenAt_36 (by decide) ?_
        refine J_icmp_eq C g25 (rgN 32 (by decide)) (tgt := 44) dX2_brokenAt_38 (by decide) (fun q42 => ?_) (fun q42 => ?_)
        · replace h := h.1 q42
          refine J_aload_n C dX2_brokenAt_44 rfl 0 rfl ?_
          refine J_iload C dX2_brokenAt_45 4 rfl ?_
          refine J_V C (ct_X2_longerLine hs k0 g4_19 h) ck_X2_longerLine wm_X2_34 win_X2_longerLine wsel_X2_longerLine (dm_p hs k0) (clE_k E s k0.1) rfl ⟨rfl, rfl⟩ (by decide) (by decide) (As := [.int (jI x4_19)]) (rest := []) rfl rfl (Nat.le_of_ble_eq_true rfl) dX2_brokenAt_47 (J_pI (fun v26 g28 h => ?_))
          refine J_istore C dX2_brokenAt_50 (by decide) (lv' := [(5, .int (jI v26)), (0, .ref (adE E r0)), (1, .int (jI x1)), (2, .int (jI x2_19)), (3, .int (jI x3_19)), (4, .int (jI x4_19))]) rfl ?_
          refine J_aload_n C dX2_brokenAt_52 rfl 1 rfl ?_
          refine gf_X2_text C hs k0 wf_X2_24 dX2_brokenAt_53 ?_
          refine J_alenT C hs k0 dX2_brokenAt_56 (fun g30 => ?_)
          refine J_iconst C dX2_brokenAt_57 ?_
          refine J_isub C dX2_brokenAt_58 ?_
          refine J_iload C dX2_brokenAt_59 0 rfl ?_
          refine J_isub C dX2_brokenAt_61 ?_
          obtain ⟨x6_62, e31⟩ : ∃ v : Int, v = (((gL s (r0 + 1)) - 1) - v26) := ⟨_, rfl⟩
          obtain ⟨g6_62, h⟩ := h x6_62 e31
          refine J_top e31 ?_
          refine J_istore C dX2_brokenAt_62 (by decide) (lv' := [(6, .int (jI x6_62)), (5, .int (jI v26)), (0, .ref (adE E r0)), (1, .int (jI x1)), (2, .int (jI x2_19)), (3, .int (jI x3_19)), (4, .int (jI x4_19))]) rfl ?_
          refine J_iload C dX2_brokenAt_64 1 rfl ?_
          refine J_iload_n C dX2_brokenAt_66 rfl 3 rfl ?_
          refine J_icmp_le C g28 g1 (tgt := 79) dX2_brokenAt_67 (by decide) (fun q41 => ?_) (fun q41 => ?_)
          · replace h := h.1 q41
            refine J_iload C dX2_brokenAt_79 1 rfl ?_
            refine J_iload C dX2_brokenAt_81 0 rfl ?_
            refine J_isub C dX2_brokenAt_83 ?_
            refine J_bipush C dX2_brokenAt_84 (by decide) ?_
            refine J_aload_n C dX2_brokenAt_86 rfl 2 rfl ?_
            refine J_iload C dX2_brokenAt_87 6 rfl ?_
            refine J_V C (ct_X2_rankOf hs k0 g4_19 h) ck_X2_rankOf wm_X2_38 win_X2_rankOf wsel_X2_rankOf (dm_p hs k0) (clE_k E s k0.1) rfl ⟨rfl, rfl⟩ (by decide) (by decide) (As := [.int (jI x4_19)]) (rest := [.int (jI 6), .int (jI (v26 - x6_62))]) rfl rfl (Nat.le_of_ble_eq_true rfl) dX2_brokenAt_89 (J_pI (fun v32 g34 h => ?_))
            refine J_imul C dX2_brokenAt_92 ?_
            refine J_iadd C dX2_brokenAt_93 ?_
            obtain ⟨g39, h⟩ := h
            exact J_sub [2, 3, 4, 5, 6] rfl (j94 _ _ _ _ h g2_19 g3_19 g4_19 g39)
          · replace h := h.2 q41
            refine J_sipush C dX2_brokenAt_70 (by decide) ?_
            refine J_iload C dX2_brokenAt_73 1 rfl ?_
            refine J_iadd C dX2_brokenAt_75 ?_
            refine J_goto C (tgt := 94) dX2_brokenAt_76 (by decide) ?_
            obtain ⟨g40, h⟩ := h
            exact J_sub [2, 3, 4, 5, 6] rfl (j94 _ _ _ _ h g2_19 g3_19 g4_19 g40)
        · replace h := h.2 q42
          refine J_goto C (tgt := 114) dX2_brokenAt_41 (by decide) ?_
          exact J_sub [0, 1, 2, 3, 4] rfl (j114 _ _ _ h g2_19 g3_19 g4_19)
    )
    exact J_sub [3, 4, 2, 1, 0] rfl (h (rgN (-9) (by decide)) (rgN 0 (by decide)) (rgN 0 (by decide)))
  · replace h := h.2 q44
    refine J_iload_n C dX2_brokenAt_14 rfl 1 rfl ?_
    exact J_iret C (Nat.zero_le _) (Nat.zero_le _) dX2_brokenAt_15 (by rw [hF]; exact ⟨_, rfl, (rgN (-9) (by decide)), ⟨h, rfl⟩, rfl⟩)
set_option maxHeartbeats 4000000 in
set_option maxRecDepth 100000 in
theorem ct_X2_isTooWide {l : Launch} {E : ET} (hs : eS E = true) {s : Sg} {r0 : Nat} (k0 : okP s r0) {x1 : Int} (g1 : rgI x1) {Q : Int → Prop} (h : wp_X2_isTooWide r0 x1 s Q) : MetE l E yX2_isTooWide cX2_isTooWide 4 (some .boolean) rm_X2_isTooWide s [.ref (adE E r0), .int (jI x1)] (qZ (fun r t => Q r ∧ t = s) (gN s)) := by
  refine MetJ (by decide +kernel) (Nat.le_of_ble_eq_true rfl) ?_
  intro F hl C hF
  subst hl
  show JJ F E 0 0 s 0 [(0, .ref (adE E r0)), (1, .int (jI x1))] []
  have j14 : ∀ (r0 : Nat) (x1 : Int) (t0 : Int), wj_X2_isTooWide_14   r0 x1 t0 s Q → okP s r0 → rgI x1 → rgI t0 → JJ F E 0 0 s 14 [(0, .ref (adE E r0)), (1, .int (jI x1))] [.int (jI t0)] := by
    intro r0 x1 t0 h k0 g1 gt0
    refine J_istore_n C dX2_isTooWide_14 rfl (by decide) (lv' := [(2, .int (jI t0)), (0, .ref (adE E r0)), (1, .int (jI x1))]) rfl ?_
    refine J_iconst C dX2_isTooWide_15 ?_
    refine J_istore_n C dX2_isTooWide_16 rfl (by decide) (lv' := [(3, .int (jI 0)), (2, .int (jI t0)), (0, .ref (adE E r0)), (1, .int (jI x1))]) rfl ?_
    replace h := h (fun (x2_17 : Int) (x3_17 : Int) => rgI x2_17 → rgI x3_17 → JJ F E 0 0 s 17 [(0, .ref (adE E r0)), (1, .int (jI x1)), (2, .int (jI x2_17)), (3, .int (jI x3_17))] []) (by
      intro x2_17 x3_17 h g2_17 g3_17
      have j52 : ∀ (x2 : Int) (x3 : Int), wj_X2_isTooWide_52 (fun (x2_17 : Int) (x3_17 : Int) => rgI x2_17 → rgI x3_17 → JJ F E 0 0 s 17 [(0, .ref (adE E r0)), (1, .int (jI x1)), (2, .int (jI x2_17)), (3, .int (jI x3_17))] []) r0 x1 x2 x3 s Q → rgI x2 → rgI x3 → JJ F E 0 0 s 52 [(0, .ref (adE E r0)), (1, .int (jI x1)), (2, .int (jI x2)), (3, .int (jI x3))] [] := by
        intro x2 x3 h g2 g3
        refine J_iinc C dX2_isTooWide_52 3 rfl (by decide) (lv' := [(3, .int (jI (x3 + 1))), (0, .ref (adE E r0)), (1, .int (jI x1)), (2, .int (jI x2))]) rfl ?_
        refine J_goto C (tgt := 17) dX2_isTooWide_55 (by decide) ?_
        obtain ⟨g28, h⟩ := h
        exact J_sub [1, 2, 3, 0] rfl (h g2 g28)
      refine J_iload_n C dX2_isTooWide_17 rfl 2 rfl ?_
      refine J_if_eq C g2_17 (tgt := 58) dX2_isTooWide_18 (by decide) (fun q36 => ?_) (fun q36 => ?_)
      · replace h := h.1 q36
        refine J_iload_n C dX2_isTooWide_58 rfl 2 rfl ?_
        obtain ⟨g22, h⟩ := h
        exact J_zret C (Nat.zero_le _) (Nat.zero_le _) (nar_z g22) dX2_isTooWide_59 (by rw [hF]; exact ⟨_, rfl, g22, ⟨h, rfl⟩, rfl⟩)
      · replace h := h.2 q36
        refine J_iload_n C dX2_isTooWide_21 rfl 3 rfl ?_
        refine J_aload_n C dX2_isTooWide_22 rfl 0 rfl ?_
        refine gf_X2_text C hs k0 wf_X2_24 dX2_isTooWide_23 ?_
        refine J_alenT C hs k0 dX2_isTooWide_26 (fun g23 => ?_)
        refine J_icmp_ge C g3_17 g23 (tgt := 58) dX2_isTooWide_27 (by decide) (fun q35 => ?_) (fun q35 => ?_)
        · replace h := h.1 q35
          refine J_iload_n C dX2_isTooWide_58 rfl 2 rfl ?_
          obtain ⟨g24, h⟩ := h
          exact J_zret C (Nat.zero_le _) (Nat.zero_le _) (nar_z g24) dX2_isTooWide_59 (by rw [hF]; exact ⟨_, rfl, g24, ⟨h, rfl⟩, rfl⟩)
        · replace h := h.2 q35
          refine J_aload_n C dX2_isTooWide_30 rfl 0 rfl ?_
          refine gf_X2_text C hs k0 wf_X2_24 dX2_isTooWide_31 ?_
          refine J_iload_n C dX2_isTooWide_34 rfl 3 rfl ?_
          obtain ⟨b25, b26, h⟩ := h
          refine J_baldT C hs k0 b25 b26 dX2_isTooWide_35 (fun g27 => ?_)
          refine J_bipush C dX2_isTooWide_36 (by decide) ?_
          refine J_icmp_ne C g27 (rgN 32 (by decide)) (tgt := 52) dX2_isTooWide_38 (by decide) (fun q34 => ?_) (fun q34 => ?_)
          · replace h := h.2 q34
            exact J_sub [0, 1, 2, 3] rfl (j52 _ _ h g2_17 g3_17)
          · replace h := h.1 q34
            refine J_aload_n C dX2_isTooWide_41 rfl 0 rfl ?_
            refine J_iload_n C dX2_isTooWide_42 rfl 3 rfl ?_
            refine J_V C (ct_X2_longerLine hs k0 g3_17 h) ck_X2_longerLine wm_X2_34 win_X2_longerLine wsel_X2_longerLine (dm_p hs k0) (clE_k E s k0.1) rfl ⟨rfl, rfl⟩ (by decide) (by decide) (As := [.int (jI x3_17)]) (rest := []) rfl rfl (Nat.le_of_ble_eq_true rfl) dX2_isTooWide_43 (J_pI (fun v29 g31 h => ?_))
            refine J_iload_n C dX2_isTooWide_46 rfl 1 rfl ?_
            refine J_icmp_gt C g31 g1 (tgt := 52) dX2_isTooWide_47 (by decide) (fun q33 => ?_) (fun q33 => ?_)
            · replace h := h.1 q33
              exact J_sub [0, 1, 2, 3] rfl (j52 _ _ h g2_17 g3_17)
            · replace h := h.2 q33
              refine J_iconst C dX2_isTooWide_50 ?_
              refine J_istore_n C dX2_isTooWide_51 rfl (by decide) (lv' := [(2, .int (jI 0)), (0, .ref (adE E r0)), (1, .int (jI x1)), (3, .int (jI x3_17))]) rfl ?_
              exact J_sub [1, 2, 0, 3] rfl (j52 _ _ h (rgN 0 (by decide)) g3_17)
    )
    exact J_sub [2, 3, 1, 0] rfl (h gt0 (rgN 0 (by decide)))
  refine J_aload_n C dX2_isTooWide_0 rfl 0 rfl ?_
  refine gf_X2_text C hs k0 wf_X2_24 dX2_isTooWide_1 ?_
  refine J_alenT C hs k0 dX2_isTooWide_4 (fun g21 => ?_)
  refine J_iload_n C dX2_isTooWide_5 rfl 1 rfl ?_
  refine J_icmp_le C g21 g1 (tgt := 13) dX2_isTooWide_6 (by decide) (fun q37 => ?_) (fun q37 => ?_)
  · replace h := h.1 q37
    refine J_iconst C dX2_isTooWide_13 ?_
    exact J_sub [0, 1] rfl (j14 _ _ _ h k0 g1 (rgN 0 (by decide)))
  · replace h := h.2 q37
    refine J_iconst C dX2_isTooWide_9 ?_
    refine J_goto C (tgt := 14) dX2_isTooWide_10 (by decide) ?_
    exact J_sub [0, 1] rfl (j14 _ _ _ h k0 g1 (rgN 1 (by decide)))
set_option maxHeartbeats 4000000 in
set_option maxRecDepth 100000 in
theorem ct_X3_at {l : Launch} {E : ET} (hs : eS E = true) {s : Sg} {r0 : Nat} (k0 : kdO r0 = 10) {x1 : Int} (g1 : rgI x1) {Q : Int → Prop} (h : wp_X3_at r0 x1 s Q) : MetE l E yX3_at cX3_at 2 (some .int) rm_X3_at s [.ref (adE E r0), .int (jI x1)] (qI (fun r t => Q r ∧ t = s) (gN s)) := by
  refine MetJ (by decide +kernel) (Nat.le_of_ble_eq_true rfl) ?_
  intro F hl C hF
  subst hl
  show JJ F E 0 0 s 0 [(0, .ref (adE E r0)), (1, .int (jI x1))] []
  refine J_iload_n C dX3_at_0 rfl 1 rfl ?_
  refine J_if_lt C g1 (tgt := 22) dX3_at_1 (by decide) (fun q25 => ?_) (fun q25 => ?_)
  · replace h := h.1 q25
    refine J_iconst C dX3_at_22 ?_
    exact J_iret C (Nat.zero_le _) (Nat.zero_le _) dX3_at_23 (by rw [hF]; exact ⟨_, rfl, (rgN 0 (by decide)), ⟨h, rfl⟩, rfl⟩)
  · replace h := h.2 q25
    refine J_iload_n C dX3_at_4 rfl 1 rfl ?_
    refine J_aload_n C dX3_at_5 rfl 0 rfl ?_
    refine gf_X3_values C hs k0 wf_X3_13 dX3_at_6 ?_
    refine J_alen C (dmC hs (kd10_values k0) (by decide)) (n := 5) 0 rfl (clE_k E s (kd10_values k0)) dX3_at_9 ?_
    refine J_icmp_ge C g1 (rgN 5 (by decide)) (tgt := 22) dX3_at_10 (by decide) (fun q24 => ?_) (fun q24 => ?_)
    · replace h := h.1 q24
      refine J_iconst C dX3_at_22 ?_
      exact J_iret C (Nat.zero_le _) (Nat.zero_le _) dX3_at_23 (by rw [hF]; exact ⟨_, rfl, (rgN 0 (by decide)), ⟨h, rfl⟩, rfl⟩)
    · replace h := h.2 q24
      refine J_aload_n C dX3_at_13 rfl 0 rfl ?_
      refine gf_X3_values C hs k0 wf_X3_13 dX3_at_14 ?_
      refine J_iload_n C dX3_at_17 rfl 1 rfl ?_
      obtain ⟨b21, b22, h⟩ := h
      refine J_iald C (dmC hs (kd10_values k0) (by decide)) (n := 5) (clE_k E s (kd10_values k0)) (by decide) b21 b22 dX3_at_18 (fun g23 => ?_)
      refine J_goto C (tgt := 23) dX3_at_19 (by decide) ?_
      exact J_iret C (Nat.zero_le _) (Nat.zero_le _) dX3_at_23 (by rw [hF]; exact ⟨_, rfl, g23, ⟨h, rfl⟩, rfl⟩)
set_option maxHeartbeats 4000000 in
set_option maxRecDepth 100000 in
theorem ct_X3_takes {l : Launch} {E : ET} (hs : eS E = true) {s : Sg} {r0 : Nat} (k0 : kdO r0 = 10) {x1 : Int} (g1 : rgI x1) {x2 : Int} (g2 : rgI x2) {Q : Int → Prop} (h : wp_X3_takes r0 x1 x2 s Q) : MetE l E yX3_takes cX3_takes 3 (some .boolean) rm_X3_takes s [.ref (adE E r0), .int (jI x1), .int (jI x2)] (qZ (fun r t => Q r ∧ t = s) (gN s)) := by
  refine MetJ (by decide +kernel) (Nat.le_of_ble_eq_true rfl) ?_
  intro F hl C hF
  subst hl
  show JJ F E 0 0 s 0 [(0, .ref (adE E r0)), (1, .int (jI x1)), (2, .int (jI x2))] []
  refine J_iload_n C dX3_takes_0 rfl 1 rfl ?_
  refine J_if_lt C g1 (tgt := 20) dX3_takes_1 (by decide) (fun q29 => ?_) (fun q29 => ?_)
  · replace h := h.1 q29
    refine J_iconst C dX3_takes_20 ?_
    exact J_zret C (Nat.zero_le _) (Nat.zero_le _) (nar_z (Or.inl rfl)) dX3_takes_21 (by rw [hF]; exact ⟨_, rfl, (Or.inl rfl), ⟨h, rfl⟩, rfl⟩)
  · replace h := h.2 q29
    refine J_iload_n C dX3_takes_4 rfl 1 rfl ?_
    refine J_getsN C (fun z => z.2.1.1.1) (fun z => z.2.2.1.2.2.2.2.1) dX3_takes_5 ?_
    refine J_tlen C (fun z => z.2.1.1.2) dX3_takes_8 ?_
    refine J_icmp_ge C g1 (rgN 5 (by decide)) (tgt := 20) dX3_takes_9 (by decide) (fun q28 => ?_) (fun q28 => ?_)
    · replace h := h.1 q28
      refine J_iconst C dX3_takes_20 ?_
      exact J_zret C (Nat.zero_le _) (Nat.zero_le _) (nar_z (Or.inl rfl)) dX3_takes_21 (by rw [hF]; exact ⟨_, rfl, (Or.inl rfl), ⟨h, rfl⟩, rfl⟩)
    · replace h := h.2 q28
      refine J_iload_n C dX3_takes_12 rfl 1 rfl ?_
      refine J_getsN C (fun z => z.2.1.2.1.1) (fun z => z.2.2.1.2.2.2.2.2.1) dX3_takes_13 ?_
      refine J_tlen C (fun z => z.2.1.2.1.2) dX3_takes_16 ?_
      refine J_icmp_lt C g1 (rgN 5 (by decide)) (tgt := 22) dX3_takes_17 (by decide) (fun q27 => ?_) (fun q27 => ?_)
      · replace h := h.1 q27
        refine J_iload_n C dX3_takes_22 rfl 2 rfl ?_
        refine J_getsN C (fun z => z.2.1.1.1) (fun z => z.2.2.1.2.2.2.2.1) dX3_takes_23 ?_
        refine J_iload_n C dX3_takes_26 rfl 1 rfl ?_
        obtain ⟨b21, b22, h⟩ := h
        refine J_tald C (fun z => z.2.1.1.2) b21 b22 dX3_takes_27 ?_
        refine J_icmp_lt C g2 (tabE_rg _ _) (tgt := 44) dX3_takes_28 (by decide) (fun q26 => ?_) (fun q26 => ?_)
        · replace h := h.1 q26
          refine J_iconst C dX3_takes_44 ?_
          exact J_zret C (Nat.zero_le _) (Nat.zero_le _) (nar_z (Or.inl rfl)) dX3_takes_45 (by rw [hF]; exact ⟨_, rfl, (Or.inl rfl), ⟨h, rfl⟩, rfl⟩)
        · replace h := h.2 q26
          refine J_iload_n C dX3_takes_31 rfl 2 rfl ?_
          refine J_getsN C (fun z => z.2.1.2.1.1) (fun z => z.2.2.1.2.2.2.2.2.1) dX3_takes_32 ?_
          refine J_iload_n C dX3_takes_35 rfl 1 rfl ?_
          obtain ⟨b23, b24, h⟩ := h
          refine J_tald C (fun z => z.2.1.2.1.2) b23 b24 dX3_takes_36 ?_
          refine J_icmp_gt C g2 (tabE_rg _ _) (tgt := 44) dX3_takes_37 (by decide) (fun q25 => ?_) (fun q25 => ?_)
          · replace h := h.1 q25
            refine J_iconst C dX3_takes_44 ?_
            exact J_zret C (Nat.zero_le _) (Nat.zero_le _) (nar_z (Or.inl rfl)) dX3_takes_45 (by rw [hF]; exact ⟨_, rfl, (Or.inl rfl), ⟨h, rfl⟩, rfl⟩)
          · replace h := h.2 q25
            refine J_iconst C dX3_takes_40 ?_
            refine J_goto C (tgt := 45) dX3_takes_41 (by decide) ?_
            exact J_zret C (Nat.zero_le _) (Nat.zero_le _) (nar_z (Or.inr rfl)) dX3_takes_45 (by rw [hF]; exact ⟨_, rfl, (Or.inr rfl), ⟨h, rfl⟩, rfl⟩)
      · replace h := h.2 q27
        refine J_iconst C dX3_takes_20 ?_
        exact J_zret C (Nat.zero_le _) (Nat.zero_le _) (nar_z (Or.inl rfl)) dX3_takes_21 (by rw [hF]; exact ⟨_, rfl, (Or.inl rfl), ⟨h, rfl⟩, rfl⟩)
set_option maxHeartbeats 4000000 in
set_option maxRecDepth 100000 in
theorem ct_X3_put {l : Launch} {E : ET} (hs : eS E = true) {s : Sg} {r0 : Nat} (k0 : kdO r0 = 10) {x1 : Int} (g1 : rgI x1) {x2 : Int} (g2 : rgI x2) {Q : Sg → Prop} (h : wp_X3_put r0 x1 x2 s Q) : MetE l E yX3_put cX3_put 3 none rm_X3_put s [.ref (adE E r0), .int (jI x1), .int (jI x2)] (qV Q (gN s)) := by
  refine MetJ (by decide +kernel) (Nat.le_of_ble_eq_true rfl) ?_
  intro F hl C hF
  subst hl
  show JJ F E 0 0 s 0 [(0, .ref (adE E r0)), (1, .int (jI x1)), (2, .int (jI x2))] []
  refine J_iload_n C dX3_put_0 rfl 1 rfl ?_
  refine J_if_lt C g1 (tgt := 20) dX3_put_1 (by decide) (fun q27 => ?_) (fun q27 => ?_)
  · replace h := h.1 q27
    exact J_vret C (Nat.zero_le _) (Nat.zero_le _) dX3_put_20 (by rw [hF]; exact ⟨rfl, h, rfl⟩)
  · replace h := h.2 q27
    refine J_iload_n C dX3_put_4 rfl 1 rfl ?_
    refine J_aload_n C dX3_put_5 rfl 0 rfl ?_
    refine gf_X3_values C hs k0 wf_X3_13 dX3_put_6 ?_
    refine J_alen C (dmC hs (kd10_values k0) (by decide)) (n := 5) 0 rfl (clE_k E s (kd10_values k0)) dX3_put_9 ?_
    refine J_icmp_ge C g1 (rgN 5 (by decide)) (tgt := 20) dX3_put_10 (by decide) (fun q26 => ?_) (fun q26 => ?_)
    · replace h := h.1 q26
      exact J_vret C (Nat.zero_le _) (Nat.zero_le _) dX3_put_20 (by rw [hF]; exact ⟨rfl, h, rfl⟩)
    · replace h := h.2 q26
      refine J_aload_n C dX3_put_13 rfl 0 rfl ?_
      refine gf_X3_values C hs k0 wf_X3_13 dX3_put_14 ?_
      refine J_iload_n C dX3_put_17 rfl 1 rfl ?_
      refine J_iload_n C dX3_put_18 rfl 2 rfl ?_
      obtain ⟨b21, b22, h⟩ := h
      refine J_iast C (wrC hs (kd10_values k0) (by decide)) (n := 5) (fun z => clE_k E z (kd10_values k0)) (by decide) b21 b22 g2 dX3_put_19 ?_
      obtain ⟨s23, f24⟩ : ∃ z : Sg, z = sI s (r0 + 1) x1 x2 := ⟨_, rfl⟩
      replace h := h s23 f24
      refine J_sig f24 ?_
      have n25 : gN s23 = gN s := by rw [f24]; exact rfl
      exact J_vret C (Nat.zero_le _) (Nat.zero_le _) dX3_put_20 (by rw [hF]; exact ⟨rfl, h, n25⟩)
set_option maxHeartbeats 4000000 in
set_option maxRecDepth 100000 in
theorem ct_X4_size {l : Launch} {E : ET} (hs : eS E = true) {s : Sg} {r0 : Nat} (k0 : kdO r0 = 8) {Q : Int → Prop} (h : wp_X4_size r0 s Q) : MetE l E yX4_size cX4_size 1 (some .int) rm_X4_size s [.ref (adE E r0)] (qI (fun r t => Q r ∧ t = s) (gN s)) := by
  refine MetJ (by decide +kernel) (Nat.le_of_ble_eq_true rfl) ?_
  intro F hl C hF
  subst hl
  show JJ F E 0 0 s 0 [(0, .ref (adE E r0))] []
  refine J_aload_n C dX4_size_0 rfl 0 rfl ?_
  refine gf_X4_count C hs k0 wf_X4_15 dX4_size_1 (fun g21 => ?_)
  exact J_iret C (Nat.zero_le _) (Nat.zero_le _) dX4_size_4 (by rw [hF]; exact ⟨_, rfl, g21, ⟨h, rfl⟩, rfl⟩)
set_option maxHeartbeats 4000000 in
set_option maxRecDepth 100000 in
theorem ct_X4_at {l : Launch} {E : ET} (hs : eS E = true) {s : Sg} {r0 : Nat} (k0 : kdO r0 = 8) {x1 : Int} (g1 : rgI x1) {Q : Int → Prop} (h : wp_X4_at r0 x1 s Q) : MetE l E yX4_at cX4_at 2 (some .int) rm_X4_at s [.ref (adE E r0), .int (jI x1)] (qI (fun r t => Q r ∧ t = s) (gN s)) := by
  refine MetJ (by decide +kernel) (Nat.le_of_ble_eq_true rfl) ?_
  intro F hl C hF
  subst hl
  show JJ F E 0 0 s 0 [(0, .ref (adE E r0)), (1, .int (jI x1))] []
  refine J_iload_n C dX4_at_0 rfl 1 rfl ?_
  refine J_if_lt C g1 (tgt := 21) dX4_at_1 (by decide) (fun q26 => ?_) (fun q26 => ?_)
  · replace h := h.1 q26
    refine J_bipush C dX4_at_21 (by decide) ?_
    exact J_iret C (Nat.zero_le _) (Nat.zero_le _) dX4_at_23 (by rw [hF]; exact ⟨_, rfl, (rgN (-9) (by decide)), ⟨h, rfl⟩, rfl⟩)
  · replace h := h.2 q26
    refine J_iload_n C dX4_at_4 rfl 1 rfl ?_
    refine J_aload_n C dX4_at_5 rfl 0 rfl ?_
    refine gf_X4_count C hs k0 wf_X4_15 dX4_at_6 (fun g21 => ?_)
    refine J_icmp_ge C g1 g21 (tgt := 21) dX4_at_9 (by decide) (fun q25 => ?_) (fun q25 => ?_)
    · replace h := h.1 q25
      refine J_bipush C dX4_at_21 (by decide) ?_
      exact J_iret C (Nat.zero_le _) (Nat.zero_le _) dX4_at_23 (by rw [hF]; exact ⟨_, rfl, (rgN (-9) (by decide)), ⟨h, rfl⟩, rfl⟩)
    · replace h := h.2 q25
      refine J_aload_n C dX4_at_12 rfl 0 rfl ?_
      refine gf_X4_frames C hs k0 wf_X4_9 dX4_at_13 ?_
      refine J_iload_n C dX4_at_16 rfl 1 rfl ?_
      obtain ⟨b22, b23, h⟩ := h
      refine J_iald C (dmC hs (kd8_frames k0) (by decide)) (n := 20) (clE_k E s (kd8_frames k0)) (by decide) b22 b23 dX4_at_17 (fun g24 => ?_)
      refine J_goto C (tgt := 23) dX4_at_18 (by decide) ?_
      exact J_iret C (Nat.zero_le _) (Nat.zero_le _) dX4_at_23 (by rw [hF]; exact ⟨_, rfl, g24, ⟨h, rfl⟩, rfl⟩)
set_option maxHeartbeats 4000000 in
set_option maxRecDepth 100000 in
theorem ct_X4_nearest {l : Launch} {E : ET} (hs : eS E = true) {s : Sg} {r0 : Nat} (k0 : kdO r0 = 8) {x1 : Int} (g1 : rgI x1) {x2 : Int} (g2 : rgI x2) {Q : Int → Prop} (h : wp_X4_nearest r0 x1 x2 s Q) : MetE l E yX4_nearest cX4_nearest 7 (some .int) rm_X4_nearest s [.ref (adE E r0), .int (jI x1), .int (jI x2)] (qI (fun r t => Q r ∧ t = s) (gN s)) := by
  refine MetJ (by decide +kernel) (Nat.le_of_ble_eq_true rfl) ?_
  intro F hl C hF
  subst hl
  show JJ F E 0 0 s 0 [(0, .ref (adE E r0)), (1, .int (jI x1)), (2, .int (jI x2))] []
  refine J_bipush C dX4_nearest_0 (by decide) ?_
  refine J_istore_n C dX4_nearest_2 rfl (by decide) (lv' := [(3, .int (jI (-9))), (0, .ref (adE E r0)), (1, .int (jI x1)), (2, .int (jI x2))]) rfl ?_
  refine J_iload_n C dX4_nearest_3 rfl 3 rfl ?_
  refine J_iconst C dX4_nearest_4 ?_
  refine J_iadd C dX4_nearest_5 ?_
  obtain ⟨x4_6, e21⟩ : ∃ v : Int, v = (x2 + 1) := ⟨_, rfl⟩
  obtain ⟨g4_6, h⟩ := h x4_6 e21
  refine J_top e21 ?_
  refine J_istore C dX4_nearest_6 (by decide) (lv' := [(4, .int (jI x4_6)), (3, .int (jI (-9))), (0, .ref (adE E r0)), (1, .int (jI x1)), (2, .int (jI x2))]) rfl ?_
  refine J_iconst C dX4_nearest_8 ?_
  refine J_istore C dX4_nearest_9 (by decide) (lv' := [(5, .int (jI 0)), (4, .int (jI x4_6)), (3, .int (jI (-9))), (0, .ref (adE E r0)), (1, .int (jI x1)), (2, .int (jI x2))]) rfl ?_
  replace h := h (fun (x3_11 : Int) (x4_11 : Int) (x5_11 : Int) => rgI x3_11 → rgI x4_11 → rgI x5_11 → JJ F E 0 0 s 11 [(0, .ref (adE E r0)), (1, .int (jI x1)), (3, .int (jI x3_11)), (4, .int (jI x4_11)), (5, .int (jI x5_11))] []) (by
    intro x3_11 x4_11 x5_11 h g3_11 g4_11 g5_11
    have j53 : ∀ (x3 : Int) (x4 : Int) (x5 : Int), wj_X4_nearest_53 (fun (x3_11 : Int) (x4_11 : Int) (x5_11 : Int) => rgI x3_11 → rgI x4_11 → rgI x5_11 → JJ F E 0 0 s 11 [(0, .ref (adE E r0)), (1, .int (jI x1)), (3, .int (jI x3_11)), (4, .int (jI x4_11)), (5, .int (jI x5_11))] []) r0 x1 x3 x4 x5 s Q → rgI x3 → rgI x4 → rgI x5 → JJ F E 0 0 s 53 [(0, .ref (adE E r0)), (1, .int (jI x1)), (3, .int (jI x3)), (4, .int (jI x4)), (5, .int (jI x5))] [] := by
      intro x3 x4 x5 h g3 g4 g5
      refine J_iinc C dX4_nearest_53 4 rfl (by decide) (lv' := [(5, .int (jI (x5 + 1))), (0, .ref (adE E r0)), (1, .int (jI x1)), (3, .int (jI x3)), (4, .int (jI x4))]) rfl ?_
      refine J_goto C (tgt := 11) dX4_nearest_56 (by decide) ?_
      obtain ⟨g28, h⟩ := h
      exact J_sub [1, 2, 3, 4, 0] rfl (h g3 g4 g28)
    refine J_iload C dX4_nearest_11 4 rfl ?_
    refine J_aload_n C dX4_nearest_13 rfl 0 rfl ?_
    refine gf_X4_count C hs k0 wf_X4_15 dX4_nearest_14 (fun g22 => ?_)
    refine J_icmp_ge C g5_11 g22 (tgt := 59) dX4_nearest_17 (by decide) (fun q34 => ?_) (fun q34 => ?_)
    · replace h := h.1 q34
      refine J_iload_n C dX4_nearest_59 rfl 2 rfl ?_
      exact J_iret C (Nat.zero_le _) (Nat.zero_le _) dX4_nearest_60 (by rw [hF]; exact ⟨_, rfl, g3_11, ⟨h, rfl⟩, rfl⟩)
    · replace h := h.2 q34
      refine J_aload_n C dX4_nearest_20 rfl 0 rfl ?_
      refine gf_X4_frames C hs k0 wf_X4_9 dX4_nearest_21 ?_
      refine J_iload C dX4_nearest_24 4 rfl ?_
      obtain ⟨b23, b24, h⟩ := h
      refine J_iald C (dmC hs (kd8_frames k0) (by decide)) (n := 20) (clE_k E s (kd8_frames k0)) (by decide) b23 b24 dX4_nearest_26 (fun g25 => ?_)
      refine J_iload_n C dX4_nearest_27 rfl 1 rfl ?_
      refine J_isub C dX4_nearest_28 ?_
      obtain ⟨g26, h⟩ := h
      refine J_abs C g26 wm_X4_29 wst_abs win_Math wco_abs (by decide) (Nat.le_of_ble_eq_true rfl) (by decide) dX4_nearest_29 ?_
      obtain ⟨x6_32, e27⟩ : ∃ v : Int, v = (jAbs ((gI s (r0 + 1) x5_11) - x1)) := ⟨_, rfl⟩
      obtain ⟨g6_32, h⟩ := h x6_32 e27
      refine J_top e27 ?_
      refine J_istore C dX4_nearest_32 (by decide) (lv' := [(6, .int (jI x6_32)), (0, .ref (adE E r0)), (1, .int (jI x1)), (3, .int (jI x3_11)), (4, .int (jI x4_11)), (5, .int (jI x5_11))]) rfl ?_
      refine J_iload C dX4_nearest_34 0 rfl ?_
      refine J_iload C dX4_nearest_36 4 rfl ?_
      refine J_icmp_ge C g6_32 g4_11 (tgt := 53) dX4_nearest_38 (by decide) (fun q33 => ?_) (fun q33 => ?_)
      · replace h := h.1 q33
        exact J_sub [1, 2, 3, 4, 5] rfl (j53 _ _ _ h g3_11 g4_11 g5_11)
      · replace h := h.2 q33
        refine J_aload_n C dX4_nearest_41 rfl 1 rfl ?_
        refine gf_X4_frames C hs k0 wf_X4_9 dX4_nearest_42 ?_
        refine J_iload C dX4_nearest_45 5 rfl ?_
        obtain ⟨b29, b30, h⟩ := h
        refine J_iald C (dmC hs (kd8_frames k0) (by decide)) (n := 20) (clE_k E s (kd8_frames k0)) (by decide) b29 b30 dX4_nearest_47 (fun g31 => ?_)
        obtain ⟨x3_48, e32⟩ : ∃ v : Int, v = (gI s (r0 + 1) x5_11) := ⟨_, rfl⟩
        replace h := h x3_48 e32
        have g3_48 : rgI x3_48 := by rw [e32]; exact g31
        refine J_top e32 ?_
        refine J_istore_n C dX4_nearest_48 rfl (by decide) (lv' := [(3, .int (jI x3_48)), (6, .int (jI x6_32)), (0, .ref (adE E r0)), (1, .int (jI x1)), (4, .int (jI x4_11)), (5, .int (jI x5_11))]) rfl ?_
        refine J_iload C dX4_nearest_49 1 rfl ?_
        refine J_istore C dX4_nearest_51 (by decide) (lv' := [(4, .int (jI x6_32)), (3, .int (jI x3_48)), (6, .int (jI x6_32)), (0, .ref (adE E r0)), (1, .int (jI x1)), (5, .int (jI x5_11))]) rfl ?_
        exact J_sub [3, 4, 1, 0, 5] rfl (j53 _ _ _ h g3_48 g6_32 g5_11)
  )
  exact J_sub [3, 4, 2, 1, 0] rfl (h (rgN (-9) (by decide)) g4_6 (rgN 0 (by decide)))
set_option maxHeartbeats 4000000 in
set_option maxRecDepth 100000 in
theorem ct_X4_has {l : Launch} {E : ET} (hs : eS E = true) {s : Sg} {r0 : Nat} (k0 : kdO r0 = 8) {x1 : Int} (g1 : rgI x1) {Q : Int → Prop} (h : wp_X4_has r0 x1 s Q) : MetE l E yX4_has cX4_has 2 (some .boolean) rm_X4_has s [.ref (adE E r0), .int (jI x1)] (qZ (fun r t => Q r ∧ t = s) (gN s)) := by
  refine MetJ (by decide +kernel) (Nat.le_of_ble_eq_true rfl) ?_
  intro F hl C hF
  subst hl
  show JJ F E 0 0 s 0 [(0, .ref (adE E r0)), (1, .int (jI x1))] []
  refine J_aload_n C dX4_has_0 rfl 0 rfl ?_
  refine J_iload_n C dX4_has_1 rfl 1 rfl ?_
  refine J_iconst C dX4_has_2 ?_
  refine J_V C (ct_X4_nearest hs k0 g1 (rgN 0 (by decide)) h) ck_X4_nearest wm_X4_25 win_X4_nearest wsel_X4_nearest (dmC hs k0 (by decide)) (clE_k E s k0) rfl ⟨rfl, rfl⟩ (by decide) (by decide) (As := [.int (jI x1), .int (jI 0)]) (rest := []) rfl rfl (Nat.le_of_ble_eq_true rfl) dX4_has_3 (J_pI (fun v21 g23 h => ?_))
  refine J_bipush C dX4_has_6 (by decide) ?_
  refine J_icmp_eq C g23 (rgN (-9) (by decide)) (tgt := 15) dX4_has_8 (by decide) (fun q25 => ?_) (fun q25 => ?_)
  · replace h := h.1 q25
    refine J_iconst C dX4_has_15 ?_
    exact J_zret C (Nat.zero_le _) (Nat.zero_le _) (nar_z (Or.inl rfl)) dX4_has_16 (by rw [hF]; exact ⟨_, rfl, (Or.inl rfl), ⟨h, rfl⟩, rfl⟩)
  · replace h := h.2 q25
    refine J_iconst C dX4_has_11 ?_
    refine J_goto C (tgt := 16) dX4_has_12 (by decide) ?_
    exact J_zret C (Nat.zero_le _) (Nat.zero_le _) (nar_z (Or.inr rfl)) dX4_has_16 (by rw [hF]; exact ⟨_, rfl, (Or.inr rfl), ⟨h, rfl⟩, rfl⟩)
set_option maxHeartbeats 4000000 in
set_option maxRecDepth 100000 in
theorem ct_X4_isMissed {l : Launch} {E : ET} (hs : eS E = true) {s : Sg} {r0 : Nat} (k0 : kdO r0 = 8) {x1 : Int} (g1 : rgI x1) {x2 : Int} (g2 : rgI x2) {Q : Int → Prop} (h : wp_X4_isMissed r0 x1 x2 s Q) : MetE l E yX4_isMissed cX4_isMissed 4 (some .boolean) rm_X4_isMissed s [.ref (adE E r0), .int (jI x1), .int (jI x2)] (qZ (fun r t => Q r ∧ t = s) (gN s)) := by
  refine MetJ (by decide +kernel) (Nat.le_of_ble_eq_true rfl) ?_
  intro F hl C hF
  subst hl
  show JJ F E 0 0 s 0 [(0, .ref (adE E r0)), (1, .int (jI x1)), (2, .int (jI x2))] []
  refine J_aload_n C dX4_isMissed_0 rfl 0 rfl ?_
  refine J_iload_n C dX4_isMissed_1 rfl 1 rfl ?_
  refine J_iload_n C dX4_isMissed_2 rfl 2 rfl ?_
  refine J_V C (ct_X4_nearest hs k0 g1 g2 h) ck_X4_nearest wm_X4_25 win_X4_nearest wsel_X4_nearest (dmC hs k0 (by decide)) (clE_k E s k0) rfl ⟨rfl, rfl⟩ (by decide) (by decide) (As := [.int (jI x1), .int (jI x2)]) (rest := []) rfl rfl (Nat.le_of_ble_eq_true rfl) dX4_isMissed_3 (J_pI (fun v21 g23 h => ?_))
  refine J_istore_n C dX4_isMissed_6 rfl (by decide) (lv' := [(3, .int (jI v21)), (0, .ref (adE E r0)), (1, .int (jI x1)), (2, .int (jI x2))]) rfl ?_
  refine J_iload_n C dX4_isMissed_7 rfl 0 rfl ?_
  refine J_bipush C dX4_isMissed_8 (by decide) ?_
  refine J_icmp_eq C g23 (rgN (-9) (by decide)) (tgt := 22) dX4_isMissed_10 (by decide) (fun q26 => ?_) (fun q26 => ?_)
  · replace h := h.1 q26
    refine J_iconst C dX4_isMissed_22 ?_
    exact J_zret C (Nat.zero_le _) (Nat.zero_le _) (nar_z (Or.inl rfl)) dX4_isMissed_23 (by rw [hF]; exact ⟨_, rfl, (Or.inl rfl), ⟨h, rfl⟩, rfl⟩)
  · replace h := h.2 q26
    refine J_iload_n C dX4_isMissed_13 rfl 0 rfl ?_
    refine J_iload_n C dX4_isMissed_14 rfl 2 rfl ?_
    refine J_icmp_eq C g23 g1 (tgt := 22) dX4_isMissed_15 (by decide) (fun q25 => ?_) (fun q25 => ?_)
    · replace h := h.1 q25
      refine J_iconst C dX4_isMissed_22 ?_
      exact J_zret C (Nat.zero_le _) (Nat.zero_le _) (nar_z (Or.inl rfl)) dX4_isMissed_23 (by rw [hF]; exact ⟨_, rfl, (Or.inl rfl), ⟨h, rfl⟩, rfl⟩)
    · replace h := h.2 q25
      refine J_iconst C dX4_isMissed_18 ?_
      refine J_goto C (tgt := 23) dX4_isMissed_19 (by decide) ?_
      exact J_zret C (Nat.zero_le _) (Nat.zero_le _) (nar_z (Or.inr rfl)) dX4_isMissed_23 (by rw [hF]; exact ⟨_, rfl, (Or.inr rfl), ⟨h, rfl⟩, rfl⟩)
set_option maxHeartbeats 4000000 in
set_option maxRecDepth 100000 in
theorem ct_X4_insert {l : Launch} {E : ET} (hs : eS E = true) {s : Sg} {r0 : Nat} (k0 : kdO r0 = 8) {x1 : Int} (g1 : rgI x1) {Q : Sg → Prop} (h : wp_X4_insert r0 x1 s Q) : MetE l E yX4_insert cX4_insert 3 none rm_X4_insert s [.ref (adE E r0), .int (jI x1)] (qV Q (gN s)) := by
  refine MetJ (by decide +kernel) (Nat.le_of_ble_eq_true rfl) ?_
  intro F hl C hF
  subst hl
  show JJ F E 0 0 s 0 [(0, .ref (adE E r0)), (1, .int (jI x1))] []
  have j59 : ∀ (r0 : Nat) (x1 : Int) (x2 : Int) (sj : Sg), wj_X4_insert_59   r0 x1 x2 sj Q → kdO r0 = 8 → rgI x1 → rgI x2 → gN sj = gN s → JJ F E 0 0 sj 59 [(0, .ref (adE E r0)), (1, .int (jI x1)), (2, .int (jI x2))] [] := by
    intro r0 x1 x2 sj h k0 g1 g2 nj
    refine J_aload_n C dX4_insert_59 rfl 0 rfl ?_
    refine gf_X4_frames C hs k0 wf_X4_9 dX4_insert_60 ?_
    refine J_iload_n C dX4_insert_63 rfl 2 rfl ?_
    refine J_iload_n C dX4_insert_64 rfl 1 rfl ?_
    obtain ⟨b28, b29, h⟩ := h
    refine J_iast C (wrC hs (kd8_frames k0) (by decide)) (n := 20) (fun z => clE_k E z (kd8_frames k0)) (by decide) b28 b29 g1 dX4_insert_65 ?_
    obtain ⟨s30, f31⟩ : ∃ z : Sg, z = sI sj (r0 + 1) x2 x1 := ⟨_, rfl⟩
    replace h := h s30 f31
    refine J_sig f31 ?_
    have n32 : gN s30 = gN s := by rw [f31]; exact nj
    refine J_aload_n C dX4_insert_66 rfl 0 rfl ?_
    refine J_dup C dX4_insert_67 rfl ?_
    refine gf_X4_count C hs k0 wf_X4_15 dX4_insert_68 (fun g33 => ?_)
    refine J_iconst C dX4_insert_71 ?_
    refine J_iadd C dX4_insert_72 ?_
    obtain ⟨g36, h⟩ := h
    refine pf_X4_count C hs k0 wf_X4_15 g36 dX4_insert_73 ?_
    obtain ⟨s34, f35⟩ : ∃ z : Sg, z = sI s30 r0 1 ((gI s30 r0 1) + 1) := ⟨_, rfl⟩
    replace h := h s34 f35
    refine J_sig f35 ?_
    have n37 : gN s34 = gN s := by rw [f35]; exact n32
    exact J_vret C (Nat.zero_le _) (Nat.zero_le _) dX4_insert_76 (by rw [hF]; exact ⟨rfl, h, n37⟩)
  refine J_aload_n C dX4_insert_0 rfl 0 rfl ?_
  refine gf_X4_count C hs k0 wf_X4_15 dX4_insert_1 (fun g21 => ?_)
  refine J_bipush C dX4_insert_4 (by decide) ?_
  refine J_icmp_ge C g21 (rgN 20 (by decide)) (tgt := 17) dX4_insert_6 (by decide) (fun q53 => ?_) (fun q53 => ?_)
  · replace h := h.1 q53
    exact J_vret C (Nat.zero_le _) (Nat.zero_le _) dX4_insert_17 (by rw [hF]; exact ⟨rfl, h, rfl⟩)
  · replace h := h.2 q53
    refine J_aload_n C dX4_insert_9 rfl 0 rfl ?_
    refine J_iload_n C dX4_insert_10 rfl 1 rfl ?_
    refine J_V C (ct_X4_has hs k0 g1 h) ck_X4_has wm_X4_35 win_X4_has wsel_X4_has (dmC hs k0 (by decide)) (clE_k E s k0) rfl ⟨rfl, rfl⟩ (by decide) (by decide) (As := [.int (jI x1)]) (rest := []) rfl rfl (Nat.le_of_ble_eq_true rfl) dX4_insert_11 (J_pZ (fun v22 g24 h => ?_))
    refine J_if_eq C (rg_z g24) (tgt := 18) dX4_insert_14 (by decide) (fun q52 => ?_) (fun q52 => ?_)
    · replace h := h.1 q52
      refine J_aload_n C dX4_insert_18 rfl 0 rfl ?_
      refine gf_X4_count C hs k0 wf_X4_15 dX4_insert_19 (fun g26 => ?_)
      obtain ⟨x2_22, e27⟩ : ∃ v : Int, v = (gI s r0 1) := ⟨_, rfl⟩
      replace h := h x2_22 e27
      have g2_22 : rgI x2_22 := by rw [e27]; exact g26
      refine J_top e27 ?_
      refine J_istore_n C dX4_insert_22 rfl (by decide) (lv' := [(2, .int (jI x2_22)), (0, .ref (adE E r0)), (1, .int (jI x1))]) rfl ?_
      replace h := h (fun (x2_23 : Int) (sL23 : Sg) => rgI x2_23 → gN sL23 = gN s → JJ F E 0 0 sL23 23 [(0, .ref (adE E r0)), (1, .int (jI x1)), (2, .int (jI x2_23))] []) (by
        intro x2_23 sL23 h g2_23 nL23
        refine J_iload_n C dX4_insert_23 rfl 2 rfl ?_
        refine J_if_le C g2_23 (tgt := 59) dX4_insert_24 (by decide) (fun q51 => ?_) (fun q51 => ?_)
        · replace h := h.1 q51
          exact J_sub [0, 1, 2] rfl (j59 _ _ _ _ h k0 g1 g2_23 nL23)
        · replace h := h.2 q51
          refine J_aload_n C dX4_insert_27 rfl 0 rfl ?_
          refine gf_X4_frames C hs k0 wf_X4_9 dX4_insert_28 ?_
          refine J_iload_n C dX4_insert_31 rfl 2 rfl ?_
          refine J_iconst C dX4_insert_32 ?_
          refine J_isub C dX4_insert_33 ?_
          obtain ⟨b38, b39, h⟩ := h
          refine J_iald C (dmC hs (kd8_frames k0) (by decide)) (n := 20) (clE_k E sL23 (kd8_frames k0)) (by decide) b38 b39 dX4_insert_34 (fun g40 => ?_)
          refine J_iload_n C dX4_insert_35 rfl 1 rfl ?_
          refine J_icmp_le C g40 g1 (tgt := 59) dX4_insert_36 (by decide) (fun q50 => ?_) (fun q50 => ?_)
          · replace h := h.1 q50
            exact J_sub [0, 1, 2] rfl (j59 _ _ _ _ h k0 g1 g2_23 nL23)
          · replace h := h.2 q50
            refine J_aload_n C dX4_insert_39 rfl 0 rfl ?_
            refine gf_X4_frames C hs k0 wf_X4_9 dX4_insert_40 ?_
            refine J_iload_n C dX4_insert_43 rfl 2 rfl ?_
            refine J_aload_n C dX4_insert_44 rfl 0 rfl ?_
            refine gf_X4_frames C hs k0 wf_X4_9 dX4_insert_45 ?_
            refine J_iload_n C dX4_insert_48 rfl 2 rfl ?_
            refine J_iconst C dX4_insert_49 ?_
            refine J_isub C dX4_insert_50 ?_
            obtain ⟨b41, b42, h⟩ := h
            refine J_iald C (dmC hs (kd8_frames k0) (by decide)) (n := 20) (clE_k E sL23 (kd8_frames k0)) (by decide) b41 b42 dX4_insert_51 (fun g43 => ?_)
            obtain ⟨b44, b45, h⟩ := h
            refine J_iast C (wrC hs (kd8_frames k0) (by decide)) (n := 20) (fun z => clE_k E z (kd8_frames k0)) (by decide) b44 b45 g43 dX4_insert_52 ?_
            obtain ⟨s46, f47⟩ : ∃ z : Sg, z = sI sL23 (r0 + 1) x2_23 (gI sL23 (r0 + 1) (x2_23 - 1)) := ⟨_, rfl⟩
            replace h := h s46 f47
            refine J_sig f47 ?_
            have n48 : gN s46 = gN s := by rw [f47]; exact nL23
            refine J_iinc C dX4_insert_53 2 rfl (by decide) (lv' := [(2, .int (jI (x2_23 + (-1)))), (0, .ref (adE E r0)), (1, .int (jI x1))]) rfl ?_
            refine J_goto C (tgt := 23) dX4_insert_56 (by decide) ?_
            obtain ⟨g49, h⟩ := h
            exact J_sub [1, 2, 0] rfl (h g49 n48)
      )
      exact J_sub [1, 2, 0] rfl (h g2_22 rfl)
    · replace h := h.2 q52
      exact J_vret C (Nat.zero_le _) (Nat.zero_le _) dX4_insert_17 (by rw [hF]; exact ⟨rfl, h, rfl⟩)
set_option maxHeartbeats 4000000 in
set_option maxRecDepth 100000 in
theorem ct_X4_remove {l : Launch} {E : ET} (hs : eS E = true) {s : Sg} {r0 : Nat} (k0 : kdO r0 = 8) {x1 : Int} (g1 : rgI x1) {Q : Sg → Prop} (h : wp_X4_remove r0 x1 s Q) : MetE l E yX4_remove cX4_remove 4 none rm_X4_remove s [.ref (adE E r0), .int (jI x1)] (qV Q (gN s)) := by
  refine MetJ (by decide +kernel) (Nat.le_of_ble_eq_true rfl) ?_
  intro F hl C hF
  subst hl
  show JJ F E 0 0 s 0 [(0, .ref (adE E r0)), (1, .int (jI x1))] []
  refine J_iconst C dX4_remove_0 ?_
  refine J_istore_n C dX4_remove_1 rfl (by decide) (lv' := [(2, .int (jI 0)), (0, .ref (adE E r0)), (1, .int (jI x1))]) rfl ?_
  refine J_iconst C dX4_remove_2 ?_
  refine J_istore_n C dX4_remove_3 rfl (by decide) (lv' := [(3, .int (jI 0)), (2, .int (jI 0)), (0, .ref (adE E r0)), (1, .int (jI x1))]) rfl ?_
  replace h := h (fun (x2_4 : Int) (x3_4 : Int) (sL4 : Sg) => rgI x2_4 → rgI x3_4 → gN sL4 = gN s → JJ F E 0 0 sL4 4 [(0, .ref (adE E r0)), (1, .int (jI x1)), (2, .int (jI x2_4)), (3, .int (jI x3_4))] []) (by
    intro x2_4 x3_4 sL4 h g2_4 g3_4 nL4
    have j37 : ∀ (x2 : Int) (x3 : Int) (sj : Sg), wj_X4_remove_37 (fun (x2_4 : Int) (x3_4 : Int) (sL4 : Sg) => rgI x2_4 → rgI x3_4 → gN sL4 = gN s → JJ F E 0 0 sL4 4 [(0, .ref (adE E r0)), (1, .int (jI x1)), (2, .int (jI x2_4)), (3, .int (jI x3_4))] []) r0 x1 x2 x3 sj Q → rgI x2 → rgI x3 → gN sj = gN s → JJ F E 0 0 sj 37 [(0, .ref (adE E r0)), (1, .int (jI x1)), (2, .int (jI x2)), (3, .int (jI x3))] [] := by
      intro x2 x3 sj h g2 g3 nj
      refine J_iinc C dX4_remove_37 3 rfl (by decide) (lv' := [(3, .int (jI (x3 + 1))), (0, .ref (adE E r0)), (1, .int (jI x1)), (2, .int (jI x2))]) rfl ?_
      refine J_goto C (tgt := 4) dX4_remove_40 (by decide) ?_
      obtain ⟨g36, h⟩ := h
      exact J_sub [1, 2, 3, 0] rfl (h g2 g36 nj)
    refine J_iload_n C dX4_remove_4 rfl 3 rfl ?_
    refine J_aload_n C dX4_remove_5 rfl 0 rfl ?_
    refine gf_X4_count C hs k0 wf_X4_15 dX4_remove_6 (fun g21 => ?_)
    refine J_icmp_ge C g3_4 g21 (tgt := 43) dX4_remove_9 (by decide) (fun q39 => ?_) (fun q39 => ?_)
    · replace h := h.1 q39
      refine J_aload_n C dX4_remove_43 rfl 0 rfl ?_
      refine J_iload_n C dX4_remove_44 rfl 2 rfl ?_
      refine pf_X4_count C hs k0 wf_X4_15 g2_4 dX4_remove_45 ?_
      obtain ⟨s22, f23⟩ : ∃ z : Sg, z = sI sL4 r0 1 x2_4 := ⟨_, rfl⟩
      replace h := h s22 f23
      refine J_sig f23 ?_
      have n24 : gN s22 = gN s := by rw [f23]; exact nL4
      exact J_vret C (Nat.zero_le _) (Nat.zero_le _) dX4_remove_48 (by rw [hF]; exact ⟨rfl, h, n24⟩)
    · replace h := h.2 q39
      refine J_aload_n C dX4_remove_12 rfl 0 rfl ?_
      refine gf_X4_frames C hs k0 wf_X4_9 dX4_remove_13 ?_
      refine J_iload_n C dX4_remove_16 rfl 2 rfl ?_
      refine J_aload_n C dX4_remove_17 rfl 0 rfl ?_
      refine gf_X4_frames C hs k0 wf_X4_9 dX4_remove_18 ?_
      refine J_iload_n C dX4_remove_21 rfl 3 rfl ?_
      obtain ⟨b25, b26, h⟩ := h
      refine J_iald C (dmC hs (kd8_frames k0) (by decide)) (n := 20) (clE_k E sL4 (kd8_frames k0)) (by decide) b25 b26 dX4_remove_22 (fun g27 => ?_)
      obtain ⟨b28, b29, h⟩ := h
      refine J_iast C (wrC hs (kd8_frames k0) (by decide)) (n := 20) (fun z => clE_k E z (kd8_frames k0)) (by decide) b28 b29 g27 dX4_remove_23 ?_
      obtain ⟨s30, f31⟩ : ∃ z : Sg, z = sI sL4 (r0 + 1) x2_4 (gI sL4 (r0 + 1) x3_4) := ⟨_, rfl⟩
      replace h := h s30 f31
      refine J_sig f31 ?_
      have n32 : gN s30 = gN s := by rw [f31]; exact nL4
      refine J_aload_n C dX4_remove_24 rfl 0 rfl ?_
      refine gf_X4_frames C hs k0 wf_X4_9 dX4_remove_25 ?_
      refine J_iload_n C dX4_remove_28 rfl 3 rfl ?_
      obtain ⟨b33, b34, h⟩ := h
      refine J_iald C (dmC hs (kd8_frames k0) (by decide)) (n := 20) (clE_k E s30 (kd8_frames k0)) (by decide) b33 b34 dX4_remove_29 (fun g35 => ?_)
      refine J_iload_n C dX4_remove_30 rfl 1 rfl ?_
      refine J_icmp_eq C g35 g1 (tgt := 37) dX4_remove_31 (by decide) (fun q38 => ?_) (fun q38 => ?_)
      · replace h := h.1 q38
        exact J_sub [0, 1, 2, 3] rfl (j37 _ _ _ h g2_4 g3_4 n32)
      · replace h := h.2 q38
        refine J_iinc C dX4_remove_34 2 rfl (by decide) (lv' := [(2, .int (jI (x2_4 + 1))), (0, .ref (adE E r0)), (1, .int (jI x1)), (3, .int (jI x3_4))]) rfl ?_
        obtain ⟨g37, h⟩ := h
        exact J_sub [1, 2, 0, 3] rfl (j37 _ _ _ h g37 g3_4 n32)
  )
  exact J_sub [2, 3, 1, 0] rfl (h (rgN 0 (by decide)) (rgN 0 (by decide)) rfl)
set_option maxHeartbeats 4000000 in
set_option maxRecDepth 100000 in
theorem ct_X6_characters {l : Launch} {E : ET} (hs : eS E = true) {s : Sg} {r0 : Nat} (k0 : kdO r0 = 14) {Q : Int → Prop} (h : wp_X6_characters r0 s Q) : MetE l E yX6_characters cX6_characters 1 (some .int) rm_X6_characters s [.ref (adE E r0)] (qI (fun r t => Q r ∧ t = s) (gN s)) := by
  refine MetJ (by decide +kernel) (Nat.le_of_ble_eq_true rfl) ?_
  intro F hl C hF
  subst hl
  show JJ F E 0 0 s 0 [(0, .ref (adE E r0))] []
  refine J_aload_n C dX6_characters_0 rfl 0 rfl ?_
  refine gf_X6_parts C hs k0 wf_X6_23 dX6_characters_1 (fun g21 => ?_)
  refine J_iconst C dX6_characters_4 ?_
  refine J_icmp_ne C g21 (rgN 2 (by decide)) (tgt := 28) dX6_characters_5 (by decide) (fun q38 => ?_) (fun q38 => ?_)
  · replace h := h.2 q38
    refine J_aload_n C dX6_characters_28 rfl 0 rfl ?_
    refine gf_X6_one C hs k0 wf_X6_7 dX6_characters_29 (fun k22 => ?_)
    refine J_V C (ct_X2_bytes hs k22 h) ck_X2_bytes wm_X6_26 win_X2_bytes wsel_X2_bytes (dm_p hs k22) (clE_k E s k22.1) rfl ⟨rfl, rfl⟩ (by decide) (by decide) (As := []) (rest := []) rfl rfl (Nat.le_of_ble_eq_true rfl) dX6_characters_32 (J_pI (fun v23 g25 h => ?_))
    exact J_iret C (Nat.zero_le _) (Nat.zero_le _) dX6_characters_35 (by rw [hF]; exact ⟨_, rfl, g25, ⟨h, rfl⟩, rfl⟩)
  · replace h := h.1 q38
    refine J_aload_n C dX6_characters_8 rfl 0 rfl ?_
    refine gf_X6_one C hs k0 wf_X6_7 dX6_characters_9 (fun k27 => ?_)
    refine J_V C (ct_X2_bytes hs k27 h) ck_X2_bytes wm_X6_26 win_X2_bytes wsel_X2_bytes (dm_p hs k27) (clE_k E s k27.1) rfl ⟨rfl, rfl⟩ (by decide) (by decide) (As := []) (rest := []) rfl rfl (Nat.le_of_ble_eq_true rfl) dX6_characters_12 (J_pI (fun v28 g30 h => ?_))
    refine J_aload_n C dX6_characters_15 rfl 0 rfl ?_
    refine gf_X6_two C hs k0 wf_X6_13 dX6_characters_16 (fun k32 => ?_)
    refine J_V C (ct_X2_bytes hs k32 h) ck_X2_bytes wm_X6_26 win_X2_bytes wsel_X2_bytes (dm_p hs k32) (clE_k E s k32.1) rfl ⟨rfl, rfl⟩ (by decide) (by decide) (As := []) (rest := [.int (jI v28)]) rfl rfl (Nat.le_of_ble_eq_true rfl) dX6_characters_19 (J_pI (fun v33 g35 h => ?_))
    refine J_iadd C dX6_characters_22 ?_
    refine J_iconst C dX6_characters_23 ?_
    refine J_iadd C dX6_characters_24 ?_
    refine J_goto C (tgt := 35) dX6_characters_25 (by decide) ?_
    obtain ⟨g37, h⟩ := h
    exact J_iret C (Nat.zero_le _) (Nat.zero_le _) dX6_characters_35 (by rw [hF]; exact ⟨_, rfl, g37, ⟨h, rfl⟩, rfl⟩)
set_option maxHeartbeats 4000000 in
set_option maxRecDepth 100000 in
theorem ct_X5_readingLength {l : Launch} {E : ET} (hs : eS E = true) {s : Sg} {r0 : Nat} (k0 : kdO r0 = 5) {r1 : Nat} (k1 : kdO r1 = 14) {Q : Int → Prop} (h : wp_X5_readingLength r0 r1 s Q) : MetE l E yX5_readingLength cX5_readingLength 3 (some .int) rm_X5_readingLength s [.ref (adE E r0), .ref (adE E r1)] (qI (fun r t => Q r ∧ t = s) (gN s)) := by
  refine MetJ (by decide +kernel) (Nat.le_of_ble_eq_true rfl) ?_
  intro F hl C hF
  subst hl
  show JJ F E 0 0 s 0 [(0, .ref (adE E r0)), (1, .ref (adE E r1))] []
  refine J_aload_n C dX5_readingLength_0 rfl 0 rfl ?_
  refine gf_X5_settings C hs k0 wf_X5_28 dX5_readingLength_1 ?_
  refine J_iconst C dX5_readingLength_4 ?_
  refine J_V C (ct_X3_at hs (kd5_settings k0) (rgN 0 (by decide)) h) ck_X3_at wm_X5_54 win_X3_at wsel_X3_at (dmC hs (kd5_settings k0) (by decide)) (clE_k E s (kd5_settings k0)) rfl ⟨rfl, rfl⟩ (by decide) (by decide) (As := [.int (jI 0)]) (rest := []) rfl rfl (Nat.le_of_ble_eq_true rfl) dX5_readingLength_5 (J_pI (fun v21 g23 h => ?_))
  refine J_aload_n C dX5_readingLength_8 rfl 1 rfl ?_
  refine J_V C (ct_X6_characters hs k1 h) ck_X6_characters wm_X5_58 win_X6_characters wsel_X6_characters (dmC hs k1 (by decide)) (clE_k E s k1) rfl ⟨rfl, rfl⟩ (by decide) (by decide) (As := []) (rest := [.int (jI v21)]) rfl rfl (Nat.le_of_ble_eq_true rfl) dX5_readingLength_9 (J_pI (fun v25 g27 h => ?_))
  refine J_imul C dX5_readingLength_12 ?_
  obtain ⟨x2_13, e29⟩ : ∃ v : Int, v = (v21 * v25) := ⟨_, rfl⟩
  obtain ⟨g2_13, h⟩ := h x2_13 e29
  refine J_top e29 ?_
  refine J_istore_n C dX5_readingLength_13 rfl (by decide) (lv' := [(2, .int (jI x2_13)), (0, .ref (adE E r0)), (1, .ref (adE E r1))]) rfl ?_
  refine J_aload_n C dX5_readingLength_14 rfl 1 rfl ?_
  refine gf_X5_settings C hs k0 wf_X5_28 dX5_readingLength_15 ?_
  refine J_iconst C dX5_readingLength_18 ?_
  refine J_V C (ct_X3_at hs (kd5_settings k0) (rgN 1 (by decide)) h) ck_X3_at wm_X5_54 win_X3_at wsel_X3_at (dmC hs (kd5_settings k0) (by decide)) (clE_k E s (kd5_settings k0)) rfl ⟨rfl, rfl⟩ (by decide) (by decide) (As := [.int (jI 1)]) (rest := []) rfl rfl (Nat.le_of_ble_eq_true rfl) dX5_readingLength_19 (J_pI (fun v30 g32 h => ?_))
  refine J_iload_n C dX5_readingLength_22 rfl 0 rfl ?_
  refine J_max C g32 g2_13 wm_X5_64 wst_max win_Math wco_max (by decide) (Nat.le_of_ble_eq_true rfl) (by decide) dX5_readingLength_23 ?_
  exact J_iret C (Nat.zero_le _) (Nat.zero_le _) dX5_readingLength_26 (by rw [hF]; exact ⟨_, rfl, (rg_max g32 g2_13), ⟨h, rfl⟩, rfl⟩)
set_option maxHeartbeats 4000000 in
set_option maxRecDepth 100000 in
theorem ct_X7_has {l : Launch} {E : ET} (hs : eS E = true) {s : Sg} {r0 : Nat} (k0 : kdO r0 = 12) {x1 : Int} (g1 : rgI x1) {Q : Int → Prop} (h : wp_X7_has r0 x1 s Q) : MetE l E yX7_has cX7_has 2 (some .boolean) rm_X7_has s [.ref (adE E r0), .int (jI x1)] (qZ (fun r t => Q r ∧ t = s) (gN s)) := by
  refine MetJ (by decide +kernel) (Nat.le_of_ble_eq_true rfl) ?_
  intro F hl C hF
  subst hl
  show JJ F E 0 0 s 0 [(0, .ref (adE E r0)), (1, .int (jI x1))] []
  refine J_iload_n C dX7_has_0 rfl 1 rfl ?_
  refine J_if_lt C g1 (tgt := 16) dX7_has_1 (by decide) (fun q23 => ?_) (fun q23 => ?_)
  · replace h := h.1 q23
    refine J_iconst C dX7_has_16 ?_
    exact J_zret C (Nat.zero_le _) (Nat.zero_le _) (nar_z (Or.inl rfl)) dX7_has_17 (by rw [hF]; exact ⟨_, rfl, (Or.inl rfl), ⟨h, rfl⟩, rfl⟩)
  · replace h := h.2 q23
    refine J_iload_n C dX7_has_4 rfl 1 rfl ?_
    refine J_aload_n C dX7_has_5 rfl 0 rfl ?_
    refine gf_X7_count C hs k0 wf_X7_24 dX7_has_6 (fun g21 => ?_)
    refine J_icmp_ge C g1 g21 (tgt := 16) dX7_has_9 (by decide) (fun q22 => ?_) (fun q22 => ?_)
    · replace h := h.1 q22
      refine J_iconst C dX7_has_16 ?_
      exact J_zret C (Nat.zero_le _) (Nat.zero_le _) (nar_z (Or.inl rfl)) dX7_has_17 (by rw [hF]; exact ⟨_, rfl, (Or.inl rfl), ⟨h, rfl⟩, rfl⟩)
    · replace h := h.2 q22
      refine J_iconst C dX7_has_12 ?_
      refine J_goto C (tgt := 17) dX7_has_13 (by decide) ?_
      exact J_zret C (Nat.zero_le _) (Nat.zero_le _) (nar_z (Or.inr rfl)) dX7_has_17 (by rw [hF]; exact ⟨_, rfl, (Or.inr rfl), ⟨h, rfl⟩, rfl⟩)
set_option maxHeartbeats 4000000 in
set_option maxRecDepth 100000 in
theorem ct_X7_next {l : Launch} {E : ET} (hs : eS E = true) {s : Sg} {r0 : Nat} (k0 : kdO r0 = 12) {x1 : Int} (g1 : rgI x1) {Q : Int → Prop} (h : wp_X7_next r0 x1 s Q) : MetE l E yX7_next cX7_next 3 (some .int) rm_X7_next s [.ref (adE E r0), .int (jI x1)] (qI (fun r t => Q r ∧ t = s) (gN s)) := by
  refine MetJ (by decide +kernel) (Nat.le_of_ble_eq_true rfl) ?_
  intro F hl C hF
  subst hl
  show JJ F E 0 0 s 0 [(0, .ref (adE E r0)), (1, .int (jI x1))] []
  refine J_iload_n C dX7_next_0 rfl 1 rfl ?_
  refine J_iconst C dX7_next_1 ?_
  refine J_iadd C dX7_next_2 ?_
  obtain ⟨x2_3, e21⟩ : ∃ v : Int, v = (x1 + 1) := ⟨_, rfl⟩
  obtain ⟨g2_3, h⟩ := h x2_3 e21
  refine J_top e21 ?_
  refine J_istore_n C dX7_next_3 rfl (by decide) (lv' := [(2, .int (jI x2_3)), (0, .ref (adE E r0)), (1, .int (jI x1))]) rfl ?_
  replace h := h (fun (x2_4 : Int) => rgI x2_4 → JJ F E 0 0 s 4 [(0, .ref (adE E r0)), (1, .int (jI x1)), (2, .int (jI x2_4))] []) (by
    intro x2_4 h g2_4
    refine J_aload_n C dX7_next_4 rfl 0 rfl ?_
    refine J_iload_n C dX7_next_5 rfl 1 rfl ?_
    refine J_V C (ct_X7_has hs k0 g1 h) ck_X7_has wm_X7_32 win_X7_has wsel_X7_has (dmC hs k0 (by decide)) (clE_k E s k0) rfl ⟨rfl, rfl⟩ (by decide) (by decide) (As := [.int (jI x1)]) (rest := []) rfl rfl (Nat.le_of_ble_eq_true rfl) dX7_next_6 (J_pZ (fun v22 g24 h => ?_))
    refine J_if_eq C (rg_z g24) (tgt := 49) dX7_next_9 (by decide) (fun q38 => ?_) (fun q38 => ?_)
    · replace h := h.1 q38
      refine J_bipush C dX7_next_49 (by decide) ?_
      exact J_iret C (Nat.zero_le _) (Nat.zero_le _) dX7_next_51 (by rw [hF]; exact ⟨_, rfl, (rgN (-9) (by decide)), ⟨h, rfl⟩, rfl⟩)
    · replace h := h.2 q38
      refine J_iload_n C dX7_next_12 rfl 2 rfl ?_
      refine J_aload_n C dX7_next_13 rfl 0 rfl ?_
      refine gf_X7_count C hs k0 wf_X7_24 dX7_next_14 (fun g26 => ?_)
      refine J_icmp_ge C g2_4 g26 (tgt := 49) dX7_next_17 (by decide) (fun q37 => ?_) (fun q37 => ?_)
      · replace h := h.1 q37
        refine J_bipush C dX7_next_49 (by decide) ?_
        exact J_iret C (Nat.zero_le _) (Nat.zero_le _) dX7_next_51 (by rw [hF]; exact ⟨_, rfl, (rgN (-9) (by decide)), ⟨h, rfl⟩, rfl⟩)
      · replace h := h.2 q37
        refine J_aload_n C dX7_next_20 rfl 0 rfl ?_
        refine gf_X7_rows C hs k0 wf_X7_11 dX7_next_21 ?_
        refine J_iload_n C dX7_next_24 rfl 2 rfl ?_
        obtain ⟨b27, b28, h⟩ := h
        refine J_aald C hs (kd12_rows k0) b27 b28 dX7_next_25 (fun k29 => ?_)
        refine gf_X6_first C hs k29 wf_X7_40 dX7_next_26 (fun g30 => ?_)
        refine J_aload_n C dX7_next_29 rfl 0 rfl ?_
        refine gf_X7_rows C hs k0 wf_X7_11 dX7_next_30 ?_
        refine J_iload_n C dX7_next_33 rfl 1 rfl ?_
        obtain ⟨b31, b32, h⟩ := h
        refine J_aald C hs (kd12_rows k0) b31 b32 dX7_next_34 (fun k33 => ?_)
        refine gf_X6_first C hs k33 wf_X7_40 dX7_next_35 (fun g34 => ?_)
        refine J_icmp_le C g30 g34 (tgt := 43) dX7_next_38 (by decide) (fun q36 => ?_) (fun q36 => ?_)
        · replace h := h.1 q36
          refine J_iinc C dX7_next_43 2 rfl (by decide) (lv' := [(2, .int (jI (x2_4 + 1))), (0, .ref (adE E r0)), (1, .int (jI x1))]) rfl ?_
          refine J_goto C (tgt := 4) dX7_next_46 (by decide) ?_
          obtain ⟨g35, h⟩ := h
          exact J_sub [1, 2, 0] rfl (h g35)
        · replace h := h.2 q36
          refine J_iload_n C dX7_next_41 rfl 2 rfl ?_
          exact J_iret C (Nat.zero_le _) (Nat.zero_le _) dX7_next_42 (by rw [hF]; exact ⟨_, rfl, g2_4, ⟨h, rfl⟩, rfl⟩)
  )
  exact J_sub [1, 2, 0] rfl (h g2_3)
set_option maxHeartbeats 4000000 in
set_option maxRecDepth 100000 in
theorem ct_X7_at {l : Launch} {E : ET} (hs : eS E = true) {s : Sg} {r0 : Nat} (k0 : kdO r0 = 12) {x1 : Int} (g1 : rgI x1) {Q : Nat → Prop} (h : wp_X7_at r0 x1 s Q) : MetE l E yX7_at cX7_at 2 (some (.object "CutConformer$Subtitle")) rm_X7_at s [.ref (adE E r0), .int (jI x1)] (qR E 14 (fun r t => Q r ∧ t = s) (gN s)) := by
  refine MetJ (by decide +kernel) (Nat.le_of_ble_eq_true rfl) ?_
  intro F hl C hF
  subst hl
  show JJ F E 0 0 s 0 [(0, .ref (adE E r0)), (1, .int (jI x1))] []
  refine J_aload_n C dX7_at_0 rfl 0 rfl ?_
  refine J_iload_n C dX7_at_1 rfl 1 rfl ?_
  refine J_V C (ct_X7_has hs k0 g1 h) ck_X7_has wm_X7_32 win_X7_has wsel_X7_has (dmC hs k0 (by decide)) (clE_k E s k0) rfl ⟨rfl, rfl⟩ (by decide) (by decide) (As := [.int (jI x1)]) (rest := []) rfl rfl (Nat.le_of_ble_eq_true rfl) dX7_at_2 (J_pZ (fun v21 g23 h => ?_))
  refine J_if_eq C (rg_z g23) (tgt := 17) dX7_at_5 (by decide) (fun q28 => ?_) (fun q28 => ?_)
  · replace h := h.1 q28
    refine J_aload_n C dX7_at_17 rfl 0 rfl ?_
    refine gf_X7_missing C hs k0 wf_X7_20 dX7_at_18 ?_
    exact J_aret C (Nat.zero_le _) (Nat.zero_le _) dX7_at_21 (by rw [hF]; exact ⟨_, rfl, (kd12_missing k0), ⟨h, rfl⟩, rfl⟩)
  · replace h := h.2 q28
    refine J_aload_n C dX7_at_8 rfl 0 rfl ?_
    refine gf_X7_rows C hs k0 wf_X7_11 dX7_at_9 ?_
    refine J_iload_n C dX7_at_12 rfl 1 rfl ?_
    obtain ⟨b25, b26, h⟩ := h
    refine J_aald C hs (kd12_rows k0) b25 b26 dX7_at_13 (fun k27 => ?_)
    refine J_goto C (tgt := 21) dX7_at_14 (by decide) ?_
    exact J_aret C (Nat.zero_le _) (Nat.zero_le _) dX7_at_21 (by rw [hF]; exact ⟨_, rfl, k27, ⟨h, rfl⟩, rfl⟩)
set_option maxHeartbeats 4000000 in
set_option maxRecDepth 100000 in
theorem ct_X5_latestEnd {l : Launch} {E : ET} (hs : eS E = true) {s : Sg} {r0 : Nat} (k0 : kdO r0 = 5) {x1 : Int} (g1 : rgI x1) {Q : Int → Prop} (h : wp_X5_latestEnd r0 x1 s Q) : MetE l E yX5_latestEnd cX5_latestEnd 3 (some .int) rm_X5_latestEnd s [.ref (adE E r0), .int (jI x1)] (qI (fun r t => Q r ∧ t = s) (gN s)) := by
  refine MetJ (by decide +kernel) (Nat.le_of_ble_eq_true rfl) ?_
  intro F hl C hF
  subst hl
  show JJ F E 0 0 s 0 [(0, .ref (adE E r0)), (1, .int (jI x1))] []
  refine J_aload_n C dX5_latestEnd_0 rfl 0 rfl ?_
  refine gf_X5_track C hs k0 wf_X5_37 dX5_latestEnd_1 ?_
  refine J_iload_n C dX5_latestEnd_4 rfl 1 rfl ?_
  refine J_V C (ct_X7_next hs (kd5_track k0) g1 h) ck_X7_next wm_X5_70 win_X7_next wsel_X7_next (dmC hs (kd5_track k0) (by decide)) (clE_k E s (kd5_track k0)) rfl ⟨rfl, rfl⟩ (by decide) (by decide) (As := [.int (jI x1)]) (rest := []) rfl rfl (Nat.le_of_ble_eq_true rfl) dX5_latestEnd_5 (J_pI (fun v21 g23 h => ?_))
  refine J_istore_n C dX5_latestEnd_8 rfl (by decide) (lv' := [(2, .int (jI v21)), (0, .ref (adE E r0)), (1, .int (jI x1))]) rfl ?_
  refine J_iload_n C dX5_latestEnd_9 rfl 0 rfl ?_
  refine J_bipush C dX5_latestEnd_10 (by decide) ?_
  refine J_icmp_ne C g23 (rgN (-9) (by decide)) (tgt := 21) dX5_latestEnd_12 (by decide) (fun q35 => ?_) (fun q35 => ?_)
  · replace h := h.2 q35
    refine J_aload_n C dX5_latestEnd_21 rfl 1 rfl ?_
    refine gf_X5_track C hs k0 wf_X5_37 dX5_latestEnd_22 ?_
    refine J_iload_n C dX5_latestEnd_25 rfl 0 rfl ?_
    refine J_V C (ct_X7_at hs (kd5_track k0) g23 h) ck_X7_at wm_X5_73 win_X7_at wsel_X7_at (dmC hs (kd5_track k0) (by decide)) (clE_k E s (kd5_track k0)) rfl ⟨rfl, rfl⟩ (by decide) (by decide) (As := [.int (jI v21)]) (rest := []) rfl rfl (Nat.le_of_ble_eq_true rfl) dX5_latestEnd_26 (J_pR (fun r25 g27 h => ?_))
    refine gf_X6_first C hs g27 wf_X5_76 dX5_latestEnd_29 (fun g29 => ?_)
    refine J_aload_n C dX5_latestEnd_32 rfl 1 rfl ?_
    refine gf_X5_settings C hs k0 wf_X5_28 dX5_latestEnd_33 ?_
    refine J_iconst C dX5_latestEnd_36 ?_
    refine J_V C (ct_X3_at hs (kd5_settings k0) (rgN 2 (by decide)) h) ck_X3_at wm_X5_54 win_X3_at wsel_X3_at (dmC hs (kd5_settings k0) (by decide)) (clE_k E s (kd5_settings k0)) rfl ⟨rfl, rfl⟩ (by decide) (by decide) (As := [.int (jI 2)]) (rest := [.int (jI (gI s r25 0))]) rfl rfl (Nat.le_of_ble_eq_true rfl) dX5_latestEnd_37 (J_pI (fun v30 g32 h => ?_))
    refine J_isub C dX5_latestEnd_40 ?_
    obtain ⟨g34, h⟩ := h
    exact J_iret C (Nat.zero_le _) (Nat.zero_le _) dX5_latestEnd_41 (by rw [hF]; exact ⟨_, rfl, g34, ⟨h, rfl⟩, rfl⟩)
  · replace h := h.1 q35
    refine J_sipush C dX5_latestEnd_15 (by decide) ?_
    refine J_goto C (tgt := 41) dX5_latestEnd_18 (by decide) ?_
    exact J_iret C (Nat.zero_le _) (Nat.zero_le _) dX5_latestEnd_41 (by rw [hF]; exact ⟨_, rfl, (rgN 9999 (by decide)), ⟨h, rfl⟩, rfl⟩)
set_option maxHeartbeats 4000000 in
set_option maxRecDepth 100000 in
theorem ct_X6_length {l : Launch} {E : ET} (hs : eS E = true) {s : Sg} {r0 : Nat} (k0 : kdO r0 = 14) {Q : Int → Prop} (h : wp_X6_length r0 s Q) : MetE l E yX6_length cX6_length 1 (some .int) rm_X6_length s [.ref (adE E r0)] (qI (fun r t => Q r ∧ t = s) (gN s)) := by
  refine MetJ (by decide +kernel) (Nat.le_of_ble_eq_true rfl) ?_
  intro F hl C hF
  subst hl
  show JJ F E 0 0 s 0 [(0, .ref (adE E r0))] []
  refine J_aload_n C dX6_length_0 rfl 0 rfl ?_
  refine gf_X6_end C hs k0 wf_X6_20 dX6_length_1 (fun g21 => ?_)
  refine J_aload_n C dX6_length_4 rfl 0 rfl ?_
  refine gf_X6_first C hs k0 wf_X6_16 dX6_length_5 (fun g22 => ?_)
  refine J_isub C dX6_length_8 ?_
  obtain ⟨g23, h⟩ := h
  exact J_iret C (Nat.zero_le _) (Nat.zero_le _) dX6_length_9 (by rw [hF]; exact ⟨_, rfl, g23, ⟨h, rfl⟩, rfl⟩)
