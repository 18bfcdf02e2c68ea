/-! contracts (printed by wip/whole/gen) -/
set_option maxHeartbeats 4000000 in
set_option maxRecDepth 100000 in
theorem ct_X7_sharesFirst {l : Launch} {E : ET} (hs : eS E = true) {s : Sg} {r0 : Nat} (k0 : kdO r0 = 12) {x1 : Int} (g1 : rgI x1) {Q : Int → Prop} (h : wp_X7_sharesFirst r0 x1 s Q) : MetE l E yX7_sharesFirst cX7_sharesFirst 3 (some .boolean) rm_X7_sharesFirst s [.ref (adE E r0), .int (jI x1)] (qZ (fun r t => Q r ∧ t = s) (gN s)) := by
  refine MetJ (by decide +kernel) (Nat.le_of_ble_eq_true rfl) ?_
  intro F hl C hF
  subst hl
  show JJ F E 0 0 s 0 [(0, .ref (adE E r0)), (1, .int (jI x1))] []
  have j33 : ∀ (r0 : Nat) (x1 : Int) (x2 : Int), wj_X7_sharesFirst_33   r0 x1 x2 s Q → kdO r0 = 12 → rgI x1 → rgI x2 → JJ F E 0 0 s 33 [(0, .ref (adE E r0)), (1, .int (jI x1)), (2, .int (jI x2))] [] := by
    intro r0 x1 x2 h k0 g1 g2
    refine J_aload_n C dX7_sharesFirst_33 rfl 0 rfl ?_
    refine J_iload_n C dX7_sharesFirst_34 rfl 1 rfl ?_
    refine J_iconst C dX7_sharesFirst_35 ?_
    refine J_iadd C dX7_sharesFirst_36 ?_
    obtain ⟨g32, h⟩ := h
    refine J_V C (ct_X7_has hs k0 g32 h) ck_X7_has wm_X7_32 win_X7_has wsel_X7_has (dmC hs k0 (by decide)) (clE_k E s k0) rfl ⟨rfl, rfl⟩ (by decide) (by decide) (As := [.int (jI (x1 + 1))]) (rest := []) rfl rfl (Nat.le_of_ble_eq_true rfl) dX7_sharesFirst_37 (J_pZ (fun v33 g35 h => ?_))
    refine J_if_eq C (rg_z g35) (tgt := 61) dX7_sharesFirst_40 (by decide) (fun q44 => ?_) (fun q44 => ?_)
    · replace h := h.1 q44
      refine J_iconst C dX7_sharesFirst_61 ?_
      exact J_zret C (Nat.zero_le _) (Nat.zero_le _) (nar_z (Or.inl rfl)) dX7_sharesFirst_62 (by rw [hF]; exact ⟨_, rfl, (Or.inl rfl), ⟨h, rfl⟩, rfl⟩)
    · replace h := h.2 q44
      refine J_aload_n C dX7_sharesFirst_43 rfl 0 rfl ?_
      refine J_iload_n C dX7_sharesFirst_44 rfl 1 rfl ?_
      refine J_iconst C dX7_sharesFirst_45 ?_
      refine J_iadd C dX7_sharesFirst_46 ?_
      obtain ⟨g37, h⟩ := h
      refine J_V C (ct_X7_at hs k0 g37 h) ck_X7_at wm_X7_61 win_X7_at wsel_X7_at (dmC hs k0 (by decide)) (clE_k E s k0) rfl ⟨rfl, rfl⟩ (by decide) (by decide) (As := [.int (jI (x1 + 1))]) (rest := []) rfl rfl (Nat.le_of_ble_eq_true rfl) dX7_sharesFirst_47 (J_pR (fun r38 g40 h => ?_))
      refine gf_X6_first C hs g40 wf_X7_40 dX7_sharesFirst_50 (fun g42 => ?_)
      refine J_iload_n C dX7_sharesFirst_53 rfl 2 rfl ?_
      refine J_icmp_ne C g42 g2 (tgt := 61) dX7_sharesFirst_54 (by decide) (fun q43 => ?_) (fun q43 => ?_)
      · replace h := h.2 q43
        refine J_iconst C dX7_sharesFirst_61 ?_
        exact J_zret C (Nat.zero_le _) (Nat.zero_le _) (nar_z (Or.inl rfl)) dX7_sharesFirst_62 (by rw [hF]; exact ⟨_, rfl, (Or.inl rfl), ⟨h, rfl⟩, rfl⟩)
      · replace h := h.1 q43
        refine J_iconst C dX7_sharesFirst_57 ?_
        refine J_goto C (tgt := 62) dX7_sharesFirst_58 (by decide) ?_
        exact J_zret C (Nat.zero_le _) (Nat.zero_le _) (nar_z (Or.inr rfl)) dX7_sharesFirst_62 (by rw [hF]; exact ⟨_, rfl, (Or.inr rfl), ⟨h, rfl⟩, rfl⟩)
  refine J_aload_n C dX7_sharesFirst_0 rfl 0 rfl ?_
  refine J_iload_n C dX7_sharesFirst_1 rfl 1 rfl ?_
  refine J_V C (ct_X7_at hs k0 g1 h) ck_X7_at wm_X7_61 win_X7_at wsel_X7_at (dmC hs k0 (by decide)) (clE_k E s k0) rfl ⟨rfl, rfl⟩ (by decide) (by decide) (As := [.int (jI x1)]) (rest := []) rfl rfl (Nat.le_of_ble_eq_true rfl) dX7_sharesFirst_2 (J_pR (fun r21 g23 h => ?_))
  refine gf_X6_first C hs g23 wf_X7_40 dX7_sharesFirst_5 (fun g25 => ?_)
  obtain ⟨x2_8, e26⟩ : ∃ v : Int, v = (gI s r21 0) := ⟨_, rfl⟩
  replace h := h x2_8 e26
  have g2_8 : rgI x2_8 := by rw [e26]; exact g25
  refine J_top e26 ?_
  refine J_istore_n C dX7_sharesFirst_8 rfl (by decide) (lv' := [(2, .int (jI x2_8)), (0, .ref (adE E r0)), (1, .int (jI x1))]) rfl ?_
  refine J_aload_n C dX7_sharesFirst_9 rfl 1 rfl ?_
  refine J_iload_n C dX7_sharesFirst_10 rfl 2 rfl ?_
  refine J_iconst C dX7_sharesFirst_11 ?_
  refine J_isub C dX7_sharesFirst_12 ?_
  obtain ⟨g27, h⟩ := h
  refine J_V C (ct_X7_has hs k0 g27 h) ck_X7_has wm_X7_32 win_X7_has wsel_X7_has (dmC hs k0 (by decide)) (clE_k E s k0) rfl ⟨rfl, rfl⟩ (by decide) (by decide) (As := [.int (jI (x1 - 1))]) (rest := []) rfl rfl (Nat.le_of_ble_eq_true rfl) dX7_sharesFirst_13 (J_pZ (fun v28 g30 h => ?_))
  refine J_if_eq C (rg_z g30) (tgt := 33) dX7_sharesFirst_16 (by decide) (fun q52 => ?_) (fun q52 => ?_)
  · replace h := h.1 q52
    exact J_sub [1, 2, 0] rfl (j33 _ _ _ h k0 g1 g2_8)
  · replace h := h.2 q52
    refine J_aload_n C dX7_sharesFirst_19 rfl 1 rfl ?_
    refine J_iload_n C dX7_sharesFirst_20 rfl 2 rfl ?_
    refine J_iconst C dX7_sharesFirst_21 ?_
    refine J_isub C dX7_sharesFirst_22 ?_
    obtain ⟨g45, h⟩ := h
    refine J_V C (ct_X7_at hs k0 g45 h) ck_X7_at wm_X7_61 win_X7_at wsel_X7_at (dmC hs k0 (by decide)) (clE_k E s k0) rfl ⟨rfl, rfl⟩ (by decide) (by decide) (As := [.int (jI (x1 - 1))]) (rest := []) rfl rfl (Nat.le_of_ble_eq_true rfl) dX7_sharesFirst_23 (J_pR (fun r46 g48 h => ?_))
    refine gf_X6_first C hs g48 wf_X7_40 dX7_sharesFirst_26 (fun g50 => ?_)
    refine J_iload_n C dX7_sharesFirst_29 rfl 0 rfl ?_
    refine J_icmp_eq C g50 g2_8 (tgt := 57) dX7_sharesFirst_30 (by decide) (fun q51 => ?_) (fun q51 => ?_)
    · replace h := h.1 q51
      refine J_iconst C dX7_sharesFirst_57 ?_
      refine J_goto C (tgt := 62) dX7_sharesFirst_58 (by decide) ?_
      exact J_zret C (Nat.zero_le _) (Nat.zero_le _) (nar_z (Or.inr rfl)) dX7_sharesFirst_62 (by rw [hF]; exact ⟨_, rfl, (Or.inr rfl), ⟨h, rfl⟩, rfl⟩)
    · replace h := h.2 q51
      exact J_sub [1, 2, 0] rfl (j33 _ _ _ h k0 g1 g2_8)
set_option maxHeartbeats 4000000 in
set_option maxRecDepth 100000 in
theorem ct_X6_isTooWide {l : Launch} {E : ET} (hs : eS E = true) {s : Sg} {r0 : Nat} (k0 : kdO r0 = 14) {x1 : Int} (g1 : rgI x1) {Q : Int → Prop} (h : wp_X6_isTooWide r0 x1 s Q) : MetE l E yX6_isTooWide cX6_isTooWide 2 (some .boolean) rm_X6_isTooWide s [.ref (adE E r0), .int (jI x1)] (qZ (fun r t => Q r ∧ t = s) (gN s)) := by
  refine MetJ (by decide +kernel) (Nat.le_of_ble_eq_true rfl) ?_
  intro F hl C hF
  subst hl
  show JJ F E 0 0 s 0 [(0, .ref (adE E r0)), (1, .int (jI x1))] []
  refine J_aload_n C dX6_isTooWide_0 rfl 0 rfl ?_
  refine gf_X6_one C hs k0 wf_X6_7 dX6_isTooWide_1 (fun k21 => ?_)
  refine J_iload_n C dX6_isTooWide_4 rfl 1 rfl ?_
  refine J_V C (ct_X2_isTooWide hs k21 g1 h) ck_X2_isTooWide wm_X6_32 win_X2_isTooWide wsel_X2_isTooWide (dm_p hs k21) (clE_k E s k21.1) rfl ⟨rfl, rfl⟩ (by decide) (by decide) (As := [.int (jI x1)]) (rest := []) rfl rfl (Nat.le_of_ble_eq_true rfl) dX6_isTooWide_5 (J_pZ (fun v22 g24 h => ?_))
  refine J_if_ne C (rg_z g24) (tgt := 30) dX6_isTooWide_8 (by decide) (fun q34 => ?_) (fun q34 => ?_)
  · replace h := h.2 q34
    refine J_iconst C dX6_isTooWide_30 ?_
    refine J_goto C (tgt := 35) dX6_isTooWide_31 (by decide) ?_
    exact J_zret C (Nat.zero_le _) (Nat.zero_le _) (nar_z (Or.inr rfl)) dX6_isTooWide_35 (by rw [hF]; exact ⟨_, rfl, (Or.inr rfl), ⟨h, rfl⟩, rfl⟩)
  · replace h := h.1 q34
    refine J_aload_n C dX6_isTooWide_11 rfl 0 rfl ?_
    refine gf_X6_parts C hs k0 wf_X6_23 dX6_isTooWide_12 (fun g26 => ?_)
    refine J_iconst C dX6_isTooWide_15 ?_
    refine J_icmp_ne C g26 (rgN 2 (by decide)) (tgt := 34) dX6_isTooWide_16 (by decide) (fun q33 => ?_) (fun q33 => ?_)
    · replace h := h.2 q33
      refine J_iconst C dX6_isTooWide_34 ?_
      exact J_zret C (Nat.zero_le _) (Nat.zero_le _) (nar_z (Or.inl rfl)) dX6_isTooWide_35 (by rw [hF]; exact ⟨_, rfl, (Or.inl rfl), ⟨h, rfl⟩, rfl⟩)
    · replace h := h.1 q33
      refine J_aload_n C dX6_isTooWide_19 rfl 0 rfl ?_
      refine gf_X6_two C hs k0 wf_X6_13 dX6_isTooWide_20 (fun k27 => ?_)
      refine J_iload_n C dX6_isTooWide_23 rfl 1 rfl ?_
      refine J_V C (ct_X2_isTooWide hs k27 g1 h) ck_X2_isTooWide wm_X6_32 win_X2_isTooWide wsel_X2_isTooWide (dm_p hs k27) (clE_k E s k27.1) rfl ⟨rfl, rfl⟩ (by decide) (by decide) (As := [.int (jI x1)]) (rest := []) rfl rfl (Nat.le_of_ble_eq_true rfl) dX6_isTooWide_24 (J_pZ (fun v28 g30 h => ?_))
      refine J_if_eq C (rg_z g30) (tgt := 34) dX6_isTooWide_27 (by decide) (fun q32 => ?_) (fun q32 => ?_)
      · replace h := h.1 q32
        refine J_iconst C dX6_isTooWide_34 ?_
        exact J_zret C (Nat.zero_le _) (Nat.zero_le _) (nar_z (Or.inl rfl)) dX6_isTooWide_35 (by rw [hF]; exact ⟨_, rfl, (Or.inl rfl), ⟨h, rfl⟩, rfl⟩)
      · replace h := h.2 q32
        refine J_iconst C dX6_isTooWide_30 ?_
        refine J_goto C (tgt := 35) dX6_isTooWide_31 (by decide) ?_
        exact J_zret C (Nat.zero_le _) (Nat.zero_le _) (nar_z (Or.inr rfl)) dX6_isTooWide_35 (by rw [hF]; exact ⟨_, rfl, (Or.inr rfl), ⟨h, rfl⟩, rfl⟩)
set_option maxHeartbeats 4000000 in
set_option maxRecDepth 100000 in
theorem ct_X5_faultsOf {l : Launch} {E : ET} (hs : eS E = true) {s : Sg} {r0 : Nat} (k0 : kdO r0 = 5) {x1 : Int} (g1 : rgI x1) {Q : Int → Prop} (h : wp_X5_faultsOf r0 x1 s Q) : MetE l E yX5_faultsOf cX5_faultsOf 5 (some .int) rm_X5_faultsOf s [.ref (adE E r0), .int (jI x1)] (qI (fun r t => Q r ∧ t = s) (gN s)) := by
  refine MetJ (by decide +kernel) (Nat.le_of_ble_eq_true rfl) ?_
  intro F hl C hF
  subst hl
  show JJ F E 0 0 s 0 [(0, .ref (adE E r0)), (1, .int (jI x1))] []
  have j116 : ∀ (r0 : Nat) (r2 : Nat) (x4 : Int), wj_X5_faultsOf_116   r0 r2 x4 s Q → kdO r0 = 5 → kdO r2 = 14 → rgI x4 → JJ F E 0 0 s 116 [(0, .ref (adE E r0)), (2, .ref (adE E r2)), (4, .int (jI x4))] [] := by
    intro r0 r2 x4 h k0 k2 g4
    refine J_aload_n C dX5_faultsOf_116 rfl 1 rfl ?_
    refine gf_X6_end C hs k2 wf_X5_87 dX5_faultsOf_117 (fun g59 => ?_)
    refine J_aload_n C dX5_faultsOf_120 rfl 0 rfl ?_
    refine gf_X5_cut C hs k0 wf_X5_12 dX5_faultsOf_121 ?_
    refine J_V C (ct_X0_frames hs (kd5_cut k0) h) ck_X0_frames wm_X5_104 win_X0_frames wsel_X0_frames (dmC hs (kd5_cut k0) (by decide)) (clE_k E s (kd5_cut k0)) rfl ⟨rfl, rfl⟩ (by decide) (by decide) (As := []) (rest := [.int (jI (gI s r2 1))]) rfl rfl (Nat.le_of_ble_eq_true rfl) dX5_faultsOf_124 (J_pI (fun v60 g62 h => ?_))
    refine J_icmp_le C g59 g62 (tgt := 133) dX5_faultsOf_127 (by decide) (fun q65 => ?_) (fun q65 => ?_)
    · replace h := h.1 q65
      refine J_iload C dX5_faultsOf_133 2 rfl ?_
      exact J_iret C (Nat.zero_le _) (Nat.zero_le _) dX5_faultsOf_135 (by rw [hF]; exact ⟨_, rfl, g4, ⟨h, rfl⟩, rfl⟩)
    · replace h := h.2 q65
      refine J_iinc C dX5_faultsOf_130 2 rfl (by decide) (lv' := [(4, .int (jI (x4 + 32))), (0, .ref (adE E r0)), (2, .ref (adE E r2))]) rfl ?_
      refine J_iload C dX5_faultsOf_133 0 rfl ?_
      obtain ⟨g64, h⟩ := h
      exact J_iret C (Nat.zero_le _) (Nat.zero_le _) dX5_faultsOf_135 (by rw [hF]; exact ⟨_, rfl, g64, ⟨h, rfl⟩, rfl⟩)
  have j98 : ∀ (r0 : Nat) (r2 : Nat) (x4 : Int), wj_X5_faultsOf_98   r0 r2 x4 s Q → kdO r0 = 5 → kdO r2 = 14 → rgI x4 → JJ F E 0 0 s 98 [(0, .ref (adE E r0)), (2, .ref (adE E r2)), (4, .int (jI x4))] [] := by
    intro r0 r2 x4 h k0 k2 g4
    refine J_aload_n C dX5_faultsOf_98 rfl 1 rfl ?_
    refine J_aload_n C dX5_faultsOf_99 rfl 0 rfl ?_
    refine gf_X5_settings C hs k0 wf_X5_28 dX5_faultsOf_100 ?_
    refine J_iconst C dX5_faultsOf_103 ?_
    refine J_V C (ct_X3_at hs (kd5_settings k0) (rgN 4 (by decide)) h) ck_X3_at wm_X5_54 win_X3_at wsel_X3_at (dmC hs (kd5_settings k0) (by decide)) (clE_k E s (kd5_settings k0)) rfl ⟨rfl, rfl⟩ (by decide) (by decide) (As := [.int (jI 4)]) (rest := [.ref (adE E r2)]) rfl rfl (Nat.le_of_ble_eq_true rfl) dX5_faultsOf_104 (J_pI (fun v51 g53 h => ?_))
    refine J_V C (ct_X6_isTooWide hs k2 g53 h) ck_X6_isTooWide wm_X5_101 win_X6_isTooWide wsel_X6_isTooWide (dmC hs k2 (by decide)) (clE_k E s k2) rfl ⟨rfl, rfl⟩ (by decide) (by decide) (As := [.int (jI v51)]) (rest := []) rfl rfl (Nat.le_of_ble_eq_true rfl) dX5_faultsOf_107 (J_pZ (fun v55 g57 h => ?_))
    refine J_if_eq C (rg_z g57) (tgt := 116) dX5_faultsOf_110 (by decide) (fun q67 => ?_) (fun q67 => ?_)
    · replace h := h.1 q67
      exact J_sub [0, 1, 2] rfl (j116 _ _ _ h k0 k2 g4)
    · replace h := h.2 q67
      refine J_iinc C dX5_faultsOf_113 2 rfl (by decide) (lv' := [(4, .int (jI (x4 + 16))), (0, .ref (adE E r0)), (2, .ref (adE E r2))]) rfl ?_
      obtain ⟨g66, h⟩ := h
      exact J_sub [1, 2, 0] rfl (j116 _ _ _ h k0 k2 g66)
  have j95 : ∀ (r0 : Nat) (r2 : Nat) (x4 : Int), wj_X5_faultsOf_95   r0 r2 x4 s Q → kdO r0 = 5 → kdO r2 = 14 → rgI x4 → JJ F E 0 0 s 95 [(0, .ref (adE E r0)), (2, .ref (adE E r2)), (4, .int (jI x4))] [] := by
    intro r0 r2 x4 h k0 k2 g4
    refine J_iinc C dX5_faultsOf_95 2 rfl (by decide) (lv' := [(4, .int (jI (x4 + 8))), (0, .ref (adE E r0)), (2, .ref (adE E r2))]) rfl ?_
    obtain ⟨g68, h⟩ := h
    exact J_sub [1, 2, 0] rfl (j98 _ _ _ h k0 k2 g68)
  have j65 : ∀ (r0 : Nat) (r2 : Nat) (x3 : Int) (x4 : Int), wj_X5_faultsOf_65   r0 r2 x3 x4 s Q → kdO r0 = 5 → kdO r2 = 14 → rgI x3 → rgI x4 → JJ F E 0 0 s 65 [(0, .ref (adE E r0)), (2, .ref (adE E r2)), (3, .int (jI x3)), (4, .int (jI x4))] [] := by
    intro r0 r2 x3 x4 h k0 k2 g3 g4
    refine J_aload_n C dX5_faultsOf_65 rfl 0 rfl ?_
    refine gf_X5_shots C hs k0 wf_X5_21 dX5_faultsOf_66 ?_
    refine J_aload_n C dX5_faultsOf_69 rfl 1 rfl ?_
    refine gf_X6_first C hs k2 wf_X5_76 dX5_faultsOf_70 (fun g46 => ?_)
    refine J_iload_n C dX5_faultsOf_73 rfl 2 rfl ?_
    refine J_V C (ct_X4_isMissed hs (kd5_shots k0) g46 g3 h) ck_X4_isMissed wm_X5_97 win_X4_isMissed wsel_X4_isMissed (dmC hs (kd5_shots k0) (by decide)) (clE_k E s (kd5_shots k0)) rfl ⟨rfl, rfl⟩ (by decide) (by decide) (As := [.int (jI (gI s r2 0)), .int (jI x3)]) (rest := []) rfl rfl (Nat.le_of_ble_eq_true rfl) dX5_faultsOf_74 (J_pZ (fun v47 g49 h => ?_))
    refine J_if_ne C (rg_z g49) (tgt := 95) dX5_faultsOf_77 (by decide) (fun q75 => ?_) (fun q75 => ?_)
    · replace h := h.2 q75
      exact J_sub [0, 1, 3] rfl (j95 _ _ _ h k0 k2 g4)
    · replace h := h.1 q75
      refine J_aload_n C dX5_faultsOf_80 rfl 0 rfl ?_
      refine gf_X5_shots C hs k0 wf_X5_21 dX5_faultsOf_81 ?_
      refine J_aload_n C dX5_faultsOf_84 rfl 1 rfl ?_
      refine gf_X6_end C hs k2 wf_X5_87 dX5_faultsOf_85 (fun g69 => ?_)
      refine J_iload_n C dX5_faultsOf_88 rfl 2 rfl ?_
      refine J_V C (ct_X4_isMissed hs (kd5_shots k0) g69 g3 h) ck_X4_isMissed wm_X5_97 win_X4_isMissed wsel_X4_isMissed (dmC hs (kd5_shots k0) (by decide)) (clE_k E s (kd5_shots k0)) rfl ⟨rfl, rfl⟩ (by decide) (by decide) (As := [.int (jI (gI s r2 1)), .int (jI x3)]) (rest := []) rfl rfl (Nat.le_of_ble_eq_true rfl) dX5_faultsOf_89 (J_pZ (fun v70 g72 h => ?_))
      refine J_if_eq C (rg_z g72) (tgt := 98) dX5_faultsOf_92 (by decide) (fun q74 => ?_) (fun q74 => ?_)
      · replace h := h.1 q74
        exact J_sub [0, 1, 3] rfl (j98 _ _ _ h k0 k2 g4)
      · replace h := h.2 q74
        exact J_sub [0, 1, 3] rfl (j95 _ _ _ h k0 k2 g4)
  have j51 : ∀ (r0 : Nat) (x1 : Int) (r2 : Nat) (x3 : Int) (x4 : Int), wj_X5_faultsOf_51   r0 x1 r2 x3 x4 s Q → kdO r0 = 5 → rgI x1 → kdO r2 = 14 → rgI x3 → rgI x4 → JJ F E 0 0 s 51 [(0, .ref (adE E r0)), (1, .int (jI x1)), (2, .ref (adE E r2)), (3, .int (jI x3)), (4, .int (jI x4))] [] := by
    intro r0 x1 r2 x3 x4 h k0 g1 k2 g3 g4
    refine J_aload_n C dX5_faultsOf_51 rfl 0 rfl ?_
    refine gf_X5_track C hs k0 wf_X5_37 dX5_faultsOf_52 ?_
    refine J_iload_n C dX5_faultsOf_55 rfl 1 rfl ?_
    refine J_V C (ct_X7_sharesFirst hs (kd5_track k0) g1 h) ck_X7_sharesFirst wm_X5_93 win_X7_sharesFirst wsel_X7_sharesFirst (dmC hs (kd5_track k0) (by decide)) (clE_k E s (kd5_track k0)) rfl ⟨rfl, rfl⟩ (by decide) (by decide) (As := [.int (jI x1)]) (rest := []) rfl rfl (Nat.le_of_ble_eq_true rfl) dX5_faultsOf_56 (J_pZ (fun v42 g44 h => ?_))
    refine J_if_eq C (rg_z g44) (tgt := 65) dX5_faultsOf_59 (by decide) (fun q77 => ?_) (fun q77 => ?_)
    · replace h := h.1 q77
      exact J_sub [0, 2, 3, 4] rfl (j65 _ _ _ _ h k0 k2 g3 g4)
    · replace h := h.2 q77
      refine J_iinc C dX5_faultsOf_62 4 rfl (by decide) (lv' := [(4, .int (jI (x4 + 4))), (0, .ref (adE E r0)), (1, .int (jI x1)), (2, .ref (adE E r2)), (3, .int (jI x3))]) rfl ?_
      obtain ⟨g76, h⟩ := h
      exact J_sub [1, 3, 4, 0] rfl (j65 _ _ _ _ h k0 k2 g3 g76)
  have j36 : ∀ (r0 : Nat) (x1 : Int) (r2 : Nat) (x3 : Int) (x4 : Int), wj_X5_faultsOf_36   r0 x1 r2 x3 x4 s Q → kdO r0 = 5 → rgI x1 → kdO r2 = 14 → rgI x3 → rgI x4 → JJ F E 0 0 s 36 [(0, .ref (adE E r0)), (1, .int (jI x1)), (2, .ref (adE E r2)), (3, .int (jI x3)), (4, .int (jI x4))] [] := by
    intro r0 x1 r2 x3 x4 h k0 g1 k2 g3 g4
    refine J_aload_n C dX5_faultsOf_36 rfl 2 rfl ?_
    refine gf_X6_end C hs k2 wf_X5_87 dX5_faultsOf_37 (fun g37 => ?_)
    refine J_aload_n C dX5_faultsOf_40 rfl 0 rfl ?_
    refine J_iload_n C dX5_faultsOf_41 rfl 1 rfl ?_
    refine J_V C (ct_X5_latestEnd hs k0 g1 h) ck_X5_latestEnd wm_X5_90 win_X5_latestEnd wsel_X5_latestEnd (dmC hs k0 (by decide)) (clE_k E s k0) rfl ⟨rfl, rfl⟩ (by decide) (by decide) (As := [.int (jI x1)]) (rest := [.int (jI (gI s r2 1))]) rfl rfl (Nat.le_of_ble_eq_true rfl) dX5_faultsOf_42 (J_pI (fun v38 g40 h => ?_))
    refine J_icmp_le C g37 g40 (tgt := 51) dX5_faultsOf_45 (by decide) (fun q79 => ?_) (fun q79 => ?_)
    · replace h := h.1 q79
      exact J_sub [0, 1, 2, 3, 4] rfl (j51 _ _ _ _ _ h k0 g1 k2 g3 g4)
    · replace h := h.2 q79
      refine J_iinc C dX5_faultsOf_48 4 rfl (by decide) (lv' := [(4, .int (jI (x4 + 2))), (0, .ref (adE E r0)), (1, .int (jI x1)), (2, .ref (adE E r2)), (3, .int (jI x3))]) rfl ?_
      obtain ⟨g78, h⟩ := h
      exact J_sub [1, 2, 3, 4, 0] rfl (j51 _ _ _ _ _ h k0 g1 k2 g3 g78)
  refine J_aload_n C dX5_faultsOf_0 rfl 0 rfl ?_
  refine gf_X5_track C hs k0 wf_X5_37 dX5_faultsOf_1 ?_
  refine J_iload_n C dX5_faultsOf_4 rfl 1 rfl ?_
  refine J_V C (ct_X7_at hs (kd5_track k0) g1 h) ck_X7_at wm_X5_73 win_X7_at wsel_X7_at (dmC hs (kd5_track k0) (by decide)) (clE_k E s (kd5_track k0)) rfl ⟨rfl, rfl⟩ (by decide) (by decide) (As := [.int (jI x1)]) (rest := []) rfl rfl (Nat.le_of_ble_eq_true rfl) dX5_faultsOf_5 (J_pR (fun r21 g23 h => ?_))
  refine J_astore_n C dX5_faultsOf_8 rfl (by decide) (lv' := [(2, .ref (adE E r21)), (0, .ref (adE E r0)), (1, .int (jI x1))]) rfl ?_
  refine J_aload_n C dX5_faultsOf_9 rfl 1 rfl ?_
  refine gf_X5_settings C hs k0 wf_X5_28 dX5_faultsOf_10 ?_
  refine J_iconst C dX5_faultsOf_13 ?_
  refine J_V C (ct_X3_at hs (kd5_settings k0) (rgN 3 (by decide)) h) ck_X3_at wm_X5_54 win_X3_at wsel_X3_at (dmC hs (kd5_settings k0) (by decide)) (clE_k E s (kd5_settings k0)) rfl ⟨rfl, rfl⟩ (by decide) (by decide) (As := [.int (jI 3)]) (rest := []) rfl rfl (Nat.le_of_ble_eq_true rfl) dX5_faultsOf_14 (J_pI (fun v25 g27 h => ?_))
  refine J_istore_n C dX5_faultsOf_17 rfl (by decide) (lv' := [(3, .int (jI v25)), (2, .ref (adE E r21)), (0, .ref (adE E r0)), (1, .int (jI x1))]) rfl ?_
  refine J_iconst C dX5_faultsOf_18 ?_
  refine J_istore C dX5_faultsOf_19 (by decide) (lv' := [(4, .int (jI 0)), (3, .int (jI v25)), (2, .ref (adE E r21)), (0, .ref (adE E r0)), (1, .int (jI x1))]) rfl ?_
  refine J_aload_n C dX5_faultsOf_21 rfl 2 rfl ?_
  refine J_V C (ct_X6_length hs g23 h) ck_X6_length wm_X5_80 win_X6_length wsel_X6_length (dmC hs g23 (by decide)) (clE_k E s g23) rfl ⟨rfl, rfl⟩ (by decide) (by decide) (As := []) (rest := []) rfl rfl (Nat.le_of_ble_eq_true rfl) dX5_faultsOf_22 (J_pI (fun v29 g31 h => ?_))
  refine J_aload_n C dX5_faultsOf_25 rfl 3 rfl ?_
  refine J_aload_n C dX5_faultsOf_26 rfl 2 rfl ?_
  refine J_V C (ct_X5_readingLength hs k0 g23 h) ck_X5_readingLength wm_X5_83 win_X5_readingLength wsel_X5_readingLength (dmC hs k0 (by decide)) (clE_k E s k0) rfl ⟨rfl, rfl⟩ (by decide) (by decide) (As := [.ref (adE E r21)]) (rest := [.int (jI v29)]) rfl rfl (Nat.le_of_ble_eq_true rfl) dX5_faultsOf_27 (J_pI (fun v33 g35 h => ?_))
  refine J_icmp_ge C g31 g35 (tgt := 36) dX5_faultsOf_30 (by decide) (fun q81 => ?_) (fun q81 => ?_)
  · replace h := h.1 q81
    exact J_sub [3, 4, 2, 1, 0] rfl (j36 _ _ _ _ _ h k0 g1 g23 g27 (rgN 0 (by decide)))
  · replace h := h.2 q81
    refine J_iinc C dX5_faultsOf_33 0 rfl (by decide) (lv' := [(4, .int (jI (0 + 1))), (3, .int (jI v25)), (2, .ref (adE E r21)), (0, .ref (adE E r0)), (1, .int (jI x1))]) rfl ?_
    obtain ⟨g80, h⟩ := h
    exact J_sub [3, 4, 2, 1, 0] rfl (j36 _ _ _ _ _ h k0 g1 g23 g27 g80)
set_option maxHeartbeats 4000000 in
set_option maxRecDepth 100000 in
theorem ct_X7_size {l : Launch} {E : ET} (hs : eS E = true) {s : Sg} {r0 : Nat} (k0 : kdO r0 = 12) {Q : Int → Prop} (h : wp_X7_size r0 s Q) : MetE l E yX7_size cX7_size 1 (some .int) rm_X7_size s [.ref (adE E r0)] (qI (fun r t => Q r ∧ t = s) (gN s)) := by
  refine MetJ (by decide +kernel) (Nat.le_of_ble_eq_true rfl) ?_
  intro F hl C hF
  subst hl
  show JJ F E 0 0 s 0 [(0, .ref (adE E r0))] []
  refine J_aload_n C dX7_size_0 rfl 0 rfl ?_
  refine gf_X7_count C hs k0 wf_X7_24 dX7_size_1 (fun g21 => ?_)
  exact J_iret C (Nat.zero_le _) (Nat.zero_le _) dX7_size_4 (by rw [hF]; exact ⟨_, rfl, g21, ⟨h, rfl⟩, rfl⟩)
set_option maxHeartbeats 4000000 in
set_option maxRecDepth 100000 in
theorem ct_X5_countFaulty {l : Launch} {E : ET} (hs : eS E = true) {s : Sg} {r0 : Nat} (k0 : kdO r0 = 5) {x1 : Int} (g1 : rgI x1) {Q : Int → Prop} (h : wp_X5_countFaulty r0 x1 s Q) : MetE l E yX5_countFaulty cX5_countFaulty 5 (some .int) rm_X5_countFaulty s [.ref (adE E r0), .int (jI x1)] (qI (fun r t => Q r ∧ t = s) (gN s)) := by
  refine MetJ (by decide +kernel) (Nat.le_of_ble_eq_true rfl) ?_
  intro F hl C hF
  subst hl
  show JJ F E 0 0 s 0 [(0, .ref (adE E r0)), (1, .int (jI x1))] []
  have j9 : ∀ (r0 : Nat) (t0 : Int), wj_X5_countFaulty_9   r0 t0 s Q → kdO r0 = 5 → rgI t0 → JJ F E 0 0 s 9 [(0, .ref (adE E r0))] [.int (jI t0)] := by
    intro r0 t0 h k0 gt0
    refine J_istore_n C dX5_countFaulty_9 rfl (by decide) (lv' := [(2, .int (jI t0)), (0, .ref (adE E r0))]) rfl ?_
    refine J_iconst C dX5_countFaulty_10 ?_
    refine J_istore_n C dX5_countFaulty_11 rfl (by decide) (lv' := [(3, .int (jI 0)), (2, .int (jI t0)), (0, .ref (adE E r0))]) rfl ?_
    refine J_iconst C dX5_countFaulty_12 ?_
    refine J_istore C dX5_countFaulty_13 (by decide) (lv' := [(4, .int (jI 0)), (3, .int (jI 0)), (2, .int (jI t0)), (0, .ref (adE E r0))]) rfl ?_
    replace h := h (fun (x3_15 : Int) (x4_15 : Int) => rgI x3_15 → rgI x4_15 → JJ F E 0 0 s 15 [(0, .ref (adE E r0)), (2, .int (jI t0)), (3, .int (jI x3_15)), (4, .int (jI x4_15))] []) (by
      intro x3_15 x4_15 h g3_15 g4_15
      have j41 : ∀ (x3 : Int) (x4 : Int), wj_X5_countFaulty_41 (fun (x3_15 : Int) (x4_15 : Int) => rgI x3_15 → rgI x4_15 → JJ F E 0 0 s 15 [(0, .ref (adE E r0)), (2, .int (jI t0)), (3, .int (jI x3_15)), (4, .int (jI x4_15))] []) r0 t0 x3 x4 s Q → rgI x3 → rgI x4 → JJ F E 0 0 s 41 [(0, .ref (adE E r0)), (2, .int (jI t0)), (3, .int (jI x3)), (4, .int (jI x4))] [] := by
        intro x3 x4 h g3 g4
        refine J_iinc C dX5_countFaulty_41 3 rfl (by decide) (lv' := [(4, .int (jI (x4 + 1))), (0, .ref (adE E r0)), (2, .int (jI t0)), (3, .int (jI x3))]) rfl ?_
        refine J_goto C (tgt := 15) dX5_countFaulty_44 (by decide) ?_
        obtain ⟨g29, h⟩ := h
        exact J_sub [1, 2, 3, 0] rfl (h g3 g29)
      refine J_iload C dX5_countFaulty_15 3 rfl ?_
      refine J_aload_n C dX5_countFaulty_17 rfl 0 rfl ?_
      refine gf_X5_track C hs k0 wf_X5_37 dX5_countFaulty_18 ?_
      refine J_V C (ct_X7_size hs (kd5_track k0) h) ck_X7_size wm_X5_107 win_X7_size wsel_X7_size (dmC hs (kd5_track k0) (by decide)) (clE_k E s (kd5_track k0)) rfl ⟨rfl, rfl⟩ (by decide) (by decide) (As := []) (rest := [.int (jI x4_15)]) rfl rfl (Nat.le_of_ble_eq_true rfl) dX5_countFaulty_21 (J_pI (fun v21 g23 h => ?_))
      refine J_icmp_ge C g4_15 g23 (tgt := 47) dX5_countFaulty_24 (by decide) (fun q32 => ?_) (fun q32 => ?_)
      · replace h := h.1 q32
        refine J_iload_n C dX5_countFaulty_47 rfl 2 rfl ?_
        exact J_iret C (Nat.zero_le _) (Nat.zero_le _) dX5_countFaulty_48 (by rw [hF]; exact ⟨_, rfl, g3_15, ⟨h, rfl⟩, rfl⟩)
      · replace h := h.2 q32
        refine J_aload_n C dX5_countFaulty_27 rfl 0 rfl ?_
        refine J_iload C dX5_countFaulty_28 3 rfl ?_
        refine J_V C (ct_X5_faultsOf hs k0 g4_15 h) ck_X5_faultsOf wm_X5_110 win_X5_faultsOf wsel_X5_faultsOf (dmC hs k0 (by decide)) (clE_k E s k0) rfl ⟨rfl, rfl⟩ (by decide) (by decide) (As := [.int (jI x4_15)]) (rest := []) rfl rfl (Nat.le_of_ble_eq_true rfl) dX5_countFaulty_30 (J_pI (fun v25 g27 h => ?_))
        refine J_iload_n C dX5_countFaulty_33 rfl 1 rfl ?_
        refine J_iand C dX5_countFaulty_34 ?_
        refine J_if_eq C (rg_and _ _) (tgt := 41) dX5_countFaulty_35 (by decide) (fun q31 => ?_) (fun q31 => ?_)
        · replace h := h.1 q31
          exact J_sub [0, 1, 2, 3] rfl (j41 _ _ h g3_15 g4_15)
        · replace h := h.2 q31
          refine J_iinc C dX5_countFaulty_38 2 rfl (by decide) (lv' := [(3, .int (jI (x3_15 + 1))), (0, .ref (adE E r0)), (2, .int (jI t0)), (4, .int (jI x4_15))]) rfl ?_
          obtain ⟨g30, h⟩ := h
          exact J_sub [1, 2, 0, 3] rfl (j41 _ _ h g30 g4_15)
    )
    exact J_sub [3, 2, 1, 0] rfl (h (rgN 0 (by decide)) (rgN 0 (by decide)))
  refine J_iload_n C dX5_countFaulty_0 rfl 1 rfl ?_
  refine J_if_ne C g1 (tgt := 8) dX5_countFaulty_1 (by decide) (fun q33 => ?_) (fun q33 => ?_)
  · replace h := h.2 q33
    refine J_iload_n C dX5_countFaulty_8 rfl 1 rfl ?_
    exact J_sub [0] rfl (j9 _ _ h k0 g1)
  · replace h := h.1 q33
    refine J_iconst C dX5_countFaulty_4 ?_
    refine J_goto C (tgt := 9) dX5_countFaulty_5 (by decide) ?_
    exact J_sub [0] rfl (j9 _ _ h k0 (rgN (-1) (by decide)))
set_option maxHeartbeats 4000000 in
set_option maxRecDepth 100000 in
theorem ct_X6_overlaps {l : Launch} {E : ET} (hs : eS E = true) {s : Sg} {r0 : Nat} (k0 : kdO r0 = 14) {r1 : Nat} (k1 : kdO r1 = 14) {Q : Int → Prop} (h : wp_X6_overlaps r0 r1 s Q) : MetE l E yX6_overlaps cX6_overlaps 3 (some .boolean) rm_X6_overlaps s [.ref (adE E r0), .ref (adE E r1)] (qZ (fun r t => Q r ∧ t = s) (gN s)) := by
  refine MetJ (by decide +kernel) (Nat.le_of_ble_eq_true rfl) ?_
  intro F hl C hF
  subst hl
  show JJ F E 0 0 s 0 [(0, .ref (adE E r0)), (1, .ref (adE E r1))] []
  refine J_aload_n C dX6_overlaps_0 rfl 0 rfl ?_
  refine gf_X6_parts C hs k0 wf_X6_23 dX6_overlaps_1 (fun g21 => ?_)
  refine J_iconst C dX6_overlaps_4 ?_
  refine J_icmp_ne C g21 (rgN 1 (by decide)) (tgt := 33) dX6_overlaps_5 (by decide) (fun q45 => ?_) (fun q45 => ?_)
  · replace h := h.2 q45
    refine J_iconst C dX6_overlaps_33 ?_
    exact J_zret C (Nat.zero_le _) (Nat.zero_le _) (nar_z (Or.inl rfl)) dX6_overlaps_34 (by rw [hF]; exact ⟨_, rfl, (Or.inl rfl), ⟨h, rfl⟩, rfl⟩)
  · replace h := h.1 q45
    refine J_aload_n C dX6_overlaps_8 rfl 1 rfl ?_
    refine gf_X6_parts C hs k1 wf_X6_23 dX6_overlaps_9 (fun g22 => ?_)
    refine J_iconst C dX6_overlaps_12 ?_
    refine J_icmp_ne C g22 (rgN 1 (by decide)) (tgt := 33) dX6_overlaps_13 (by decide) (fun q44 => ?_) (fun q44 => ?_)
    · replace h := h.2 q44
      refine J_iconst C dX6_overlaps_33 ?_
      exact J_zret C (Nat.zero_le _) (Nat.zero_le _) (nar_z (Or.inl rfl)) dX6_overlaps_34 (by rw [hF]; exact ⟨_, rfl, (Or.inl rfl), ⟨h, rfl⟩, rfl⟩)
    · replace h := h.1 q44
      refine J_aload_n C dX6_overlaps_16 rfl 0 rfl ?_
      refine gf_X6_one C hs k0 wf_X6_7 dX6_overlaps_17 (fun k23 => ?_)
      refine gf_X2_speaker C hs k23 wf_X6_36 dX6_overlaps_20 (fun g24 => ?_)
      refine J_aload_n C dX6_overlaps_23 rfl 1 rfl ?_
      refine gf_X6_one C hs k1 wf_X6_7 dX6_overlaps_24 (fun k25 => ?_)
      refine gf_X2_speaker C hs k25 wf_X6_36 dX6_overlaps_27 (fun g26 => ?_)
      refine J_icmp_ne C g24 g26 (tgt := 35) dX6_overlaps_30 (by decide) (fun q43 => ?_) (fun q43 => ?_)
      · replace h := h.2 q43
        refine J_aload_n C dX6_overlaps_35 rfl 0 rfl ?_
        refine gf_X6_end C hs k0 wf_X6_20 dX6_overlaps_36 (fun g27 => ?_)
        refine J_aload_n C dX6_overlaps_39 rfl 1 rfl ?_
        refine gf_X6_end C hs k1 wf_X6_20 dX6_overlaps_40 (fun g28 => ?_)
        refine J_min C g27 g28 wm_X6_39 wst_min win_Math wco_min (by decide) (Nat.le_of_ble_eq_true rfl) (by decide) dX6_overlaps_43 ?_
        refine J_aload_n C dX6_overlaps_46 rfl 0 rfl ?_
        refine gf_X6_first C hs k0 wf_X6_16 dX6_overlaps_47 (fun g29 => ?_)
        refine J_aload_n C dX6_overlaps_50 rfl 1 rfl ?_
        refine gf_X6_first C hs k1 wf_X6_16 dX6_overlaps_51 (fun g30 => ?_)
        refine J_max C g29 g30 wm_X6_45 wst_max win_Math wco_max (by decide) (Nat.le_of_ble_eq_true rfl) (by decide) dX6_overlaps_54 ?_
        refine J_isub C dX6_overlaps_57 ?_
        obtain ⟨x2_58, e31⟩ : ∃ v : Int, v = ((min (gI s r0 1) (gI s r1 1)) - (max (gI s r0 0) (gI s r1 0))) := ⟨_, rfl⟩
        obtain ⟨g2_58, h⟩ := h x2_58 e31
        refine J_top e31 ?_
        refine J_istore_n C dX6_overlaps_58 rfl (by decide) (lv' := [(2, .int (jI x2_58)), (0, .ref (adE E r0)), (1, .ref (adE E r1))]) rfl ?_
        refine J_iload_n C dX6_overlaps_59 rfl 0 rfl ?_
        refine J_if_le C g2_58 (tgt := 84) dX6_overlaps_60 (by decide) (fun q42 => ?_) (fun q42 => ?_)
        · replace h := h.1 q42
          refine J_iconst C dX6_overlaps_84 ?_
          exact J_zret C (Nat.zero_le _) (Nat.zero_le _) (nar_z (Or.inl rfl)) dX6_overlaps_85 (by rw [hF]; exact ⟨_, rfl, (Or.inl rfl), ⟨h, rfl⟩, rfl⟩)
        · replace h := h.2 q42
          refine J_iconst C dX6_overlaps_63 ?_
          refine J_iload_n C dX6_overlaps_64 rfl 0 rfl ?_
          refine J_imul C dX6_overlaps_65 ?_
          refine J_aload_n C dX6_overlaps_66 rfl 1 rfl ?_
          refine J_V C (ct_X6_length hs k0 h) ck_X6_length wm_X6_48 win_X6_length wsel_X6_length (dmC hs k0 (by decide)) (clE_k E s k0) rfl ⟨rfl, rfl⟩ (by decide) (by decide) (As := []) (rest := [.int (jI (2 * x2_58))]) rfl rfl (Nat.le_of_ble_eq_true rfl) dX6_overlaps_67 (J_pI (fun v32 g34 h => ?_))
          refine J_aload_n C dX6_overlaps_70 rfl 2 rfl ?_
          refine J_V C (ct_X6_length hs k1 h) ck_X6_length wm_X6_48 win_X6_length wsel_X6_length (dmC hs k1 (by decide)) (clE_k E s k1) rfl ⟨rfl, rfl⟩ (by decide) (by decide) (As := []) (rest := [.int (jI v32), .int (jI (2 * x2_58))]) rfl rfl (Nat.le_of_ble_eq_true rfl) dX6_overlaps_71 (J_pI (fun v36 g38 h => ?_))
          refine J_min C g34 g38 wm_X6_39 wst_min win_Math wco_min (by decide) (Nat.le_of_ble_eq_true rfl) (by decide) dX6_overlaps_74 ?_
          obtain ⟨g40, h⟩ := h
          refine J_icmp_lt C g40 (rg_min g34 g38) (tgt := 84) dX6_overlaps_77 (by decide) (fun q41 => ?_) (fun q41 => ?_)
          · replace h := h.1 q41
            refine J_iconst C dX6_overlaps_84 ?_
            exact J_zret C (Nat.zero_le _) (Nat.zero_le _) (nar_z (Or.inl rfl)) dX6_overlaps_85 (by rw [hF]; exact ⟨_, rfl, (Or.inl rfl), ⟨h, rfl⟩, rfl⟩)
          · replace h := h.2 q41
            refine J_iconst C dX6_overlaps_80 ?_
            refine J_goto C (tgt := 85) dX6_overlaps_81 (by decide) ?_
            exact J_zret C (Nat.zero_le _) (Nat.zero_le _) (nar_z (Or.inr rfl)) dX6_overlaps_85 (by rw [hF]; exact ⟨_, rfl, (Or.inr rfl), ⟨h, rfl⟩, rfl⟩)
      · replace h := h.1 q43
        refine J_iconst C dX6_overlaps_33 ?_
        exact J_zret C (Nat.zero_le _) (Nat.zero_le _) (nar_z (Or.inl rfl)) dX6_overlaps_34 (by rw [hF]; exact ⟨_, rfl, (Or.inl rfl), ⟨h, rfl⟩, rfl⟩)
set_option maxHeartbeats 4000000 in
set_option maxRecDepth 100000 in
theorem ct_X6_takeIn {l : Launch} {E : ET} (hs : eS E = true) {s : Sg} {r0 : Nat} (k0 : kdO r0 = 14) {r1 : Nat} (k1 : kdO r1 = 14) {Q : Sg → Prop} (h : wp_X6_takeIn r0 r1 s Q) : MetE l E yX6_takeIn cX6_takeIn 2 none rm_X6_takeIn s [.ref (adE E r0), .ref (adE E r1)] (qV Q (gN s)) := by
  refine MetJ (by decide +kernel) (Nat.le_of_ble_eq_true rfl) ?_
  intro F hl C hF
  subst hl
  show JJ F E 0 0 s 0 [(0, .ref (adE E r0)), (1, .ref (adE E r1))] []
  refine J_aload_n C dX6_takeIn_0 rfl 0 rfl ?_
  refine J_aload_n C dX6_takeIn_1 rfl 1 rfl ?_
  refine gf_X6_one C hs k1 wf_X6_7 dX6_takeIn_2 (fun k21 => ?_)
  refine pf_X6_two C hs k0 wf_X6_13 k21 dX6_takeIn_5 ?_
  obtain ⟨s22, f23⟩ : ∃ z : Sg, z = sR s r0 4 (gR s r1 3) := ⟨_, rfl⟩
  replace h := h s22 f23
  refine J_sig f23 ?_
  have n24 : gN s22 = gN s := by rw [f23]; exact rfl
  refine J_aload_n C dX6_takeIn_8 rfl 0 rfl ?_
  refine J_iconst C dX6_takeIn_9 ?_
  refine pf_X6_parts C hs k0 wf_X6_23 (rgN 2 (by decide)) dX6_takeIn_10 ?_
  obtain ⟨s25, f26⟩ : ∃ z : Sg, z = sI s22 r0 2 2 := ⟨_, rfl⟩
  replace h := h s25 f26
  refine J_sig f26 ?_
  have n27 : gN s25 = gN s := by rw [f26]; exact n24
  refine J_aload_n C dX6_takeIn_13 rfl 0 rfl ?_
  refine J_aload_n C dX6_takeIn_14 rfl 0 rfl ?_
  refine gf_X6_end C hs k0 wf_X6_20 dX6_takeIn_15 (fun g28 => ?_)
  refine J_aload_n C dX6_takeIn_18 rfl 1 rfl ?_
  refine gf_X6_end C hs k1 wf_X6_20 dX6_takeIn_19 (fun g29 => ?_)
  refine J_max C g28 g29 wm_X6_45 wst_max win_Math wco_max (by decide) (Nat.le_of_ble_eq_true rfl) (by decide) dX6_takeIn_22 ?_
  refine pf_X6_end C hs k0 wf_X6_20 (rg_max g28 g29) dX6_takeIn_25 ?_
  obtain ⟨s30, f31⟩ : ∃ z : Sg, z = sI s25 r0 1 (max (gI s25 r0 1) (gI s25 r1 1)) := ⟨_, rfl⟩
  replace h := h s30 f31
  refine J_sig f31 ?_
  have n32 : gN s30 = gN s := by rw [f31]; exact n27
  exact J_vret C (Nat.zero_le _) (Nat.zero_le _) dX6_takeIn_28 (by rw [hF]; exact ⟨rfl, h, n32⟩)
set_option maxHeartbeats 4000000 in
set_option maxRecDepth 100000 in
theorem ct_X7_isFull {l : Launch} {E : ET} (hs : eS E = true) {s : Sg} {r0 : Nat} (k0 : kdO r0 = 12) {Q : Int → Prop} (h : wp_X7_isFull r0 s Q) : MetE l E yX7_isFull cX7_isFull 1 (some .boolean) rm_X7_isFull s [.ref (adE E r0)] (qZ (fun r t => Q r ∧ t = s) (gN s)) := by
  refine MetJ (by decide +kernel) (Nat.le_of_ble_eq_true rfl) ?_
  intro F hl C hF
  subst hl
  show JJ F E 0 0 s 0 [(0, .ref (adE E r0))] []
  refine J_aload_n C dX7_isFull_0 rfl 0 rfl ?_
  refine gf_X7_count C hs k0 wf_X7_24 dX7_isFull_1 (fun g21 => ?_)
  refine J_bipush C dX7_isFull_4 (by decide) ?_
  refine J_icmp_lt C g21 (rgN 16 (by decide)) (tgt := 13) dX7_isFull_6 (by decide) (fun q22 => ?_) (fun q22 => ?_)
  · replace h := h.1 q22
    refine J_iconst C dX7_isFull_13 ?_
    exact J_zret C (Nat.zero_le _) (Nat.zero_le _) (nar_z (Or.inl rfl)) dX7_isFull_14 (by rw [hF]; exact ⟨_, rfl, (Or.inl rfl), ⟨h, rfl⟩, rfl⟩)
  · replace h := h.2 q22
    refine J_iconst C dX7_isFull_9 ?_
    refine J_goto C (tgt := 14) dX7_isFull_10 (by decide) ?_
    exact J_zret C (Nat.zero_le _) (Nat.zero_le _) (nar_z (Or.inr rfl)) dX7_isFull_14 (by rw [hF]; exact ⟨_, rfl, (Or.inr rfl), ⟨h, rfl⟩, rfl⟩)
set_option maxHeartbeats 4000000 in
set_option maxRecDepth 100000 in
theorem ct_X7_empty {l : Launch} {E : ET} (hs : eS E = true) {s : Sg} {r0 : Nat} (k0 : kdO r0 = 12) {Q : Sg → Prop} (h : wp_X7_empty r0 s Q) : MetE l E yX7_empty cX7_empty 1 none rm_X7_empty s [.ref (adE E r0)] (qV Q (gN s)) := by
  refine MetJ (by decide +kernel) (Nat.le_of_ble_eq_true rfl) ?_
  intro F hl C hF
  subst hl
  show JJ F E 0 0 s 0 [(0, .ref (adE E r0))] []
  refine J_aload_n C dX7_empty_0 rfl 0 rfl ?_
  refine J_iconst C dX7_empty_1 ?_
  refine pf_X7_count C hs k0 wf_X7_24 (rgN 0 (by decide)) dX7_empty_2 ?_
  obtain ⟨s21, f22⟩ : ∃ z : Sg, z = sI s r0 2 0 := ⟨_, rfl⟩
  replace h := h s21 f22
  refine J_sig f22 ?_
  have n23 : gN s21 = gN s := by rw [f22]; exact rfl
  exact J_vret C (Nat.zero_le _) (Nat.zero_le _) dX7_empty_5 (by rw [hF]; exact ⟨rfl, h, n23⟩)
set_option maxHeartbeats 4000000 in
set_option maxRecDepth 100000 in
theorem ct_X7_settle {l : Launch} {E : ET} (hs : eS E = true) {s : Sg} {r0 : Nat} (k0 : kdO r0 = 12) {x1 : Int} (g1 : rgI x1) {Q : Int → Sg → Prop} (h : wp_X7_settle r0 x1 s Q) : MetE l E yX7_settle cX7_settle 4 (some .int) rm_X7_settle s [.ref (adE E r0), .int (jI x1)] (qI Q (gN s)) := by
  refine MetJ (by decide +kernel) (Nat.le_of_ble_eq_true rfl) ?_
  intro F hl C hF
  subst hl
  show JJ F E 0 0 s 0 [(0, .ref (adE E r0)), (1, .int (jI x1))] []
  have j13 : ∀ (r0 : Nat) (t0 : Int) (sj : Sg), wj_X7_settle_13   r0 t0 sj Q → kdO r0 = 12 → rgI t0 → gN sj = gN s → JJ F E 0 0 sj 13 [(0, .ref (adE E r0))] [.int (jI t0)] := by
    intro r0 t0 sj h k0 gt0 nj
    refine J_istore_n C dX7_settle_13 rfl (by decide) (lv' := [(2, .int (jI t0)), (0, .ref (adE E r0))]) rfl ?_
    replace h := h (fun (x2_14 : Int) (sL14 : Sg) => rgI x2_14 → gN sL14 = gN s → JJ F E 0 0 sL14 14 [(0, .ref (adE E r0)), (2, .int (jI x2_14))] []) (by
      intro x2_14 sL14 h g2_14 nL14
      refine J_iload_n C dX7_settle_14 rfl 1 rfl ?_
      refine J_if_le C g2_14 (tgt := 77) dX7_settle_15 (by decide) (fun q51 => ?_) (fun q51 => ?_)
      · replace h := h.1 q51
        refine J_iload_n C dX7_settle_77 rfl 1 rfl ?_
        exact J_iret C (Nat.zero_le _) (Nat.zero_le _) dX7_settle_78 (by rw [hF]; exact ⟨_, rfl, g2_14, h, nL14⟩)
      · replace h := h.2 q51
        refine J_aload_n C dX7_settle_18 rfl 0 rfl ?_
        refine gf_X7_rows C hs k0 wf_X7_11 dX7_settle_19 ?_
        refine J_iload_n C dX7_settle_22 rfl 1 rfl ?_
        refine J_iconst C dX7_settle_23 ?_
        refine J_isub C dX7_settle_24 ?_
        obtain ⟨b25, b26, h⟩ := h
        refine J_aald C hs (kd12_rows k0) b25 b26 dX7_settle_25 (fun k27 => ?_)
        refine gf_X6_first C hs k27 wf_X7_40 dX7_settle_26 (fun g28 => ?_)
        refine J_aload_n C dX7_settle_29 rfl 0 rfl ?_
        refine gf_X7_rows C hs k0 wf_X7_11 dX7_settle_30 ?_
        refine J_iload_n C dX7_settle_33 rfl 1 rfl ?_
        obtain ⟨b29, b30, h⟩ := h
        refine J_aald C hs (kd12_rows k0) b29 b30 dX7_settle_34 (fun k31 => ?_)
        refine gf_X6_first C hs k31 wf_X7_40 dX7_settle_35 (fun g32 => ?_)
        refine J_icmp_le C g28 g32 (tgt := 77) dX7_settle_38 (by decide) (fun q50 => ?_) (fun q50 => ?_)
        · replace h := h.1 q50
          refine J_iload_n C dX7_settle_77 rfl 1 rfl ?_
          exact J_iret C (Nat.zero_le _) (Nat.zero_le _) dX7_settle_78 (by rw [hF]; exact ⟨_, rfl, g2_14, h, nL14⟩)
        · replace h := h.2 q50
          refine J_aload_n C dX7_settle_41 rfl 0 rfl ?_
          refine gf_X7_rows C hs k0 wf_X7_11 dX7_settle_42 ?_
          refine J_iload_n C dX7_settle_45 rfl 1 rfl ?_
          refine J_iconst C dX7_settle_46 ?_
          refine J_isub C dX7_settle_47 ?_
          obtain ⟨b33, b34, h⟩ := h
          refine J_aald C hs (kd12_rows k0) b33 b34 dX7_settle_48 (fun k35 => ?_)
          refine J_astore_n C dX7_settle_49 rfl (by decide) (lv' := [(3, .ref (adE E (gR sL14 (r0 + 1) (x2_14 - 1)))), (0, .ref (adE E r0)), (2, .int (jI x2_14))]) rfl ?_
          refine J_aload_n C dX7_settle_50 rfl 1 rfl ?_
          refine gf_X7_rows C hs k0 wf_X7_11 dX7_settle_51 ?_
          refine J_iload_n C dX7_settle_54 rfl 2 rfl ?_
          refine J_iconst C dX7_settle_55 ?_
          refine J_isub C dX7_settle_56 ?_
          refine J_aload_n C dX7_settle_57 rfl 1 rfl ?_
          refine gf_X7_rows C hs k0 wf_X7_11 dX7_settle_58 ?_
          refine J_iload_n C dX7_settle_61 rfl 2 rfl ?_
          obtain ⟨b36, b37, h⟩ := h
          refine J_aald C hs (kd12_rows k0) b36 b37 dX7_settle_62 (fun k38 => ?_)
          obtain ⟨b39, b40, h⟩ := h
          refine J_aast C hs (kd12_rows k0) k38 b39 b40 dX7_settle_63 ?_
          obtain ⟨s41, f42⟩ : ∃ z : Sg, z = sR sL14 (r0 + 1) (x2_14 - 1) (gR sL14 (r0 + 1) x2_14) := ⟨_, rfl⟩
          replace h := h s41 f42
          refine J_sig f42 ?_
          have n43 : gN s41 = gN s := by rw [f42]; exact nL14
          refine J_aload_n C dX7_settle_64 rfl 1 rfl ?_
          refine gf_X7_rows C hs k0 wf_X7_11 dX7_settle_65 ?_
          refine J_iload_n C dX7_settle_68 rfl 2 rfl ?_
          refine J_aload_n C dX7_settle_69 rfl 0 rfl ?_
          obtain ⟨b44, b45, h⟩ := h
          refine J_aast C hs (kd12_rows k0) k35 b44 b45 dX7_settle_70 ?_
          obtain ⟨s46, f47⟩ : ∃ z : Sg, z = sR s41 (r0 + 1) x2_14 (gR sL14 (r0 + 1) (x2_14 - 1)) := ⟨_, rfl⟩
          replace h := h s46 f47
          refine J_sig f47 ?_
          have n48 : gN s46 = gN s := by rw [f47]; exact n43
          refine J_iinc C dX7_settle_71 2 rfl (by decide) (lv' := [(2, .int (jI (x2_14 + (-1)))), (3, .ref (adE E (gR sL14 (r0 + 1) (x2_14 - 1)))), (0, .ref (adE E r0))]) rfl ?_
          refine J_goto C (tgt := 14) dX7_settle_74 (by decide) ?_
          obtain ⟨g49, h⟩ := h
          exact J_sub [2, 0] rfl (h g49 n48)
    )
    exact J_sub [1, 0] rfl (h gt0 nj)
  refine J_aload_n C dX7_settle_0 rfl 0 rfl ?_
  refine J_iload_n C dX7_settle_1 rfl 1 rfl ?_
  refine J_V C (ct_X7_has hs k0 g1 h) ck_X7_has wm_X7_32 win_X7_has wsel_X7_has (dmC hs k0 (by decide)) (clE_k E s k0) rfl ⟨rfl, rfl⟩ (by decide) (by decide) (As := [.int (jI x1)]) (rest := []) rfl rfl (Nat.le_of_ble_eq_true rfl) dX7_settle_2 (J_pZ (fun v21 g23 h => ?_))
  refine J_if_eq C (rg_z g23) (tgt := 12) dX7_settle_5 (by decide) (fun q52 => ?_) (fun q52 => ?_)
  · replace h := h.1 q52
    refine J_iconst C dX7_settle_12 ?_
    exact J_sub [0] rfl (j13 _ _ _ h k0 (rgN 0 (by decide)) rfl)
  · replace h := h.2 q52
    refine J_iload_n C dX7_settle_8 rfl 1 rfl ?_
    refine J_goto C (tgt := 13) dX7_settle_9 (by decide) ?_
    exact J_sub [0] rfl (j13 _ _ _ h k0 g1 rfl)
set_option maxHeartbeats 4000000 in
set_option maxRecDepth 100000 in
theorem ct_X7_insert {l : Launch} {E : ET} (hs : eS E = true) {s : Sg} {r0 : Nat} (k0 : kdO r0 = 12) {x1 : Int} (g1 : rgI x1) {x2 : Int} (g2 : rgI x2) {r3 : Nat} (k3 : okP s r3) {Q : Int → Sg → Prop} (h : wp_X7_insert r0 x1 x2 r3 s Q) : MetE l E yX7_insert cX7_insert 5 (some .int) rm_X7_insert s [.ref (adE E r0), .int (jI x1), .int (jI x2), .ref (adE E r3)] (qI Q (gN s)) := by
  refine MetJ (by decide +kernel) (Nat.le_of_ble_eq_true rfl) ?_
  intro F hl C hF
  subst hl
  show JJ F E 0 0 s 0 [(0, .ref (adE E r0)), (1, .int (jI x1)), (2, .int (jI x2)), (3, .ref (adE E r3))] []
  refine J_aload_n C dX7_insert_0 rfl 0 rfl ?_
  refine J_V C (ct_X7_isFull hs k0 h) ck_X7_isFull wm_X7_36 win_X7_isFull wsel_X7_isFull (dmC hs k0 (by decide)) (clE_k E s k0) rfl ⟨rfl, rfl⟩ (by decide) (by decide) (As := []) (rest := []) rfl rfl (Nat.le_of_ble_eq_true rfl) dX7_insert_1 (J_pZ (fun v21 g23 h => ?_))
  refine J_if_eq C (rg_z g23) (tgt := 10) dX7_insert_4 (by decide) (fun q53 => ?_) (fun q53 => ?_)
  · replace h := h.1 q53
    refine J_aload_n C dX7_insert_10 rfl 0 rfl ?_
    refine gf_X7_rows C hs k0 wf_X7_11 dX7_insert_11 ?_
    refine J_aload_n C dX7_insert_14 rfl 0 rfl ?_
    refine gf_X7_count C hs k0 wf_X7_24 dX7_insert_15 (fun g25 => ?_)
    obtain ⟨b26, b27, h⟩ := h
    refine J_aald C hs (kd12_rows k0) b26 b27 dX7_insert_18 (fun k28 => ?_)
    refine J_astore C dX7_insert_19 (by decide) (lv' := [(4, .ref (adE E (gR s (r0 + 1) (gI s r0 2)))), (0, .ref (adE E r0)), (1, .int (jI x1)), (2, .int (jI x2)), (3, .ref (adE E r3))]) rfl ?_
    refine J_aload C dX7_insert_21 0 rfl ?_
    refine J_iload_n C dX7_insert_23 rfl 2 rfl ?_
    refine pf_X6_first C hs k28 wf_X7_40 g1 dX7_insert_24 ?_
    obtain ⟨s29, f30⟩ : ∃ z : Sg, z = sI s (gR s (r0 + 1) (gI s r0 2)) 0 x1 := ⟨_, rfl⟩
    replace h := h s29 f30
    refine J_sig f30 ?_
    have n31 : gN s29 = gN s := by rw [f30]; exact rfl
    refine J_aload C dX7_insert_27 0 rfl ?_
    refine J_iload_n C dX7_insert_29 rfl 3 rfl ?_
    refine pf_X6_end C hs k28 wf_X7_43 g2 dX7_insert_30 ?_
    obtain ⟨s32, f33⟩ : ∃ z : Sg, z = sI s29 (gR s (r0 + 1) (gI s r0 2)) 1 x2 := ⟨_, rfl⟩
    replace h := h s32 f33
    refine J_sig f33 ?_
    have n34 : gN s32 = gN s := by rw [f33]; exact n31
    refine J_aload C dX7_insert_33 0 rfl ?_
    refine J_iconst C dX7_insert_35 ?_
    refine pf_X6_parts C hs k28 wf_X7_46 (rgN 1 (by decide)) dX7_insert_36 ?_
    obtain ⟨s35, f36⟩ : ∃ z : Sg, z = sI s32 (gR s (r0 + 1) (gI s r0 2)) 2 1 := ⟨_, rfl⟩
    replace h := h s35 f36
    refine J_sig f36 ?_
    have n37 : gN s35 = gN s := by rw [f36]; exact n34
    refine J_aload C dX7_insert_39 0 rfl ?_
    refine J_aload_n C dX7_insert_41 rfl 4 rfl ?_
    refine pf_X6_one C hs k28 wf_X7_49 (okP.to k3 ((n37).trans (rfl).symm)) dX7_insert_42 ?_
    obtain ⟨s38, f39⟩ : ∃ z : Sg, z = sR s35 (gR s (r0 + 1) (gI s r0 2)) 3 r3 := ⟨_, rfl⟩
    replace h := h s38 f39
    refine J_sig f39 ?_
    have n40 : gN s38 = gN s := by rw [f39]; exact n37
    refine J_aload_n C dX7_insert_45 rfl 1 rfl ?_
    refine J_dup C dX7_insert_46 rfl ?_
    refine gf_X7_count C hs k0 wf_X7_24 dX7_insert_47 (fun g41 => ?_)
    refine J_iconst C dX7_insert_50 ?_
    refine J_iadd C dX7_insert_51 ?_
    obtain ⟨g44, h⟩ := h
    refine pf_X7_count C hs k0 wf_X7_24 g44 dX7_insert_52 ?_
    obtain ⟨s42, f43⟩ : ∃ z : Sg, z = sI s38 r0 2 ((gI s38 r0 2) + 1) := ⟨_, rfl⟩
    replace h := h s42 f43
    refine J_sig f43 ?_
    have n45 : gN s42 = gN s := by rw [f43]; exact n40
    refine J_aload_n C dX7_insert_55 rfl 1 rfl ?_
    refine J_aload_n C dX7_insert_56 rfl 1 rfl ?_
    refine gf_X7_count C hs k0 wf_X7_24 dX7_insert_57 (fun g46 => ?_)
    refine J_iconst C dX7_insert_60 ?_
    refine J_isub C dX7_insert_61 ?_
    obtain ⟨g47, h⟩ := h
    refine J_V C (ct_X7_settle hs k0 g47 h) ck_X7_settle wm_X7_53 win_X7_settle wsel_X7_settle (dmC hs k0 (by decide)) (clE_k E s42 k0) rfl ⟨rfl, rfl⟩ (by decide) (by decide) (As := [.int (jI ((gI s42 r0 2) - 1))]) (rest := []) rfl rfl (Nat.le_of_ble_eq_true rfl) dX7_insert_62 (J_kI (fun v48 s49 g50 h n51 => ?_))
    have n52 : gN s49 = gN s := n51.trans (n45)
    exact J_iret C (Nat.zero_le _) (Nat.zero_le _) dX7_insert_65 (by rw [hF]; exact ⟨_, rfl, g50, h, n52⟩)
  · replace h := h.2 q53
    refine J_bipush C dX7_insert_7 (by decide) ?_
    exact J_iret C (Nat.zero_le _) (Nat.zero_le _) dX7_insert_9 (by rw [hF]; exact ⟨_, rfl, (rgN (-9) (by decide)), h, rfl⟩)
set_option maxHeartbeats 4000000 in
set_option maxRecDepth 100000 in
theorem ct_X7_insertLike {l : Launch} {E : ET} (hs : eS E = true) {s : Sg} {r0 : Nat} (k0 : kdO r0 = 12) {r1 : Nat} (k1 : kdO r1 = 14) {x2 : Int} (g2 : rgI x2) {x3 : Int} (g3 : rgI x3) {Q : Sg → Prop} (h : wp_X7_insertLike r0 r1 x2 x3 s Q) : MetE l E yX7_insertLike cX7_insertLike 5 none rm_X7_insertLike s [.ref (adE E r0), .ref (adE E r1), .int (jI x2), .int (jI x3)] (qV Q (gN s)) := by
  refine MetJ (by decide +kernel) (Nat.le_of_ble_eq_true rfl) ?_
  intro F hl C hF
  subst hl
  show JJ F E 0 0 s 0 [(0, .ref (adE E r0)), (1, .ref (adE E r1)), (2, .int (jI x2)), (3, .int (jI x3))] []
  refine J_aload_n C dX7_insertLike_0 rfl 0 rfl ?_
  refine J_V C (ct_X7_isFull hs k0 h) ck_X7_isFull wm_X7_36 win_X7_isFull wsel_X7_isFull (dmC hs k0 (by decide)) (clE_k E s k0) rfl ⟨rfl, rfl⟩ (by decide) (by decide) (As := []) (rest := []) rfl rfl (Nat.le_of_ble_eq_true rfl) dX7_insertLike_1 (J_pZ (fun v21 g23 h => ?_))
  refine J_if_eq C (rg_z g23) (tgt := 8) dX7_insertLike_4 (by decide) (fun q52 => ?_) (fun q52 => ?_)
  · replace h := h.1 q52
    refine J_aload_n C dX7_insertLike_8 rfl 0 rfl ?_
    refine gf_X7_rows C hs k0 wf_X7_11 dX7_insertLike_9 ?_
    refine J_aload_n C dX7_insertLike_12 rfl 0 rfl ?_
    refine gf_X7_count C hs k0 wf_X7_24 dX7_insertLike_13 (fun g25 => ?_)
    obtain ⟨b26, b27, h⟩ := h
    refine J_aald C hs (kd12_rows k0) b26 b27 dX7_insertLike_16 (fun k28 => ?_)
    refine J_astore C dX7_insertLike_17 (by decide) (lv' := [(4, .ref (adE E (gR s (r0 + 1) (gI s r0 2)))), (0, .ref (adE E r0)), (1, .ref (adE E r1)), (2, .int (jI x2)), (3, .int (jI x3))]) rfl ?_
    refine J_aload C dX7_insertLike_19 0 rfl ?_
    refine J_aload_n C dX7_insertLike_21 rfl 2 rfl ?_
    refine J_V C (ct_X6_become hs k28 k1 h) ck_X6_become wm_X7_28 win_X6_become wsel_X6_become (dmC hs k28 (by decide)) (clE_k E s k28) rfl ⟨rfl, rfl⟩ (by decide) (by decide) (As := [.ref (adE E r1)]) (rest := []) rfl rfl (Nat.le_of_ble_eq_true rfl) dX7_insertLike_22 (J_kV (fun s30 h n32 => ?_))
    have n33 : gN s30 = gN s := n32
    refine J_aload C dX7_insertLike_25 0 rfl ?_
    refine J_iload_n C dX7_insertLike_27 rfl 3 rfl ?_
    refine pf_X6_first C hs k28 wf_X7_40 g2 dX7_insertLike_28 ?_
    obtain ⟨s34, f35⟩ : ∃ z : Sg, z = sI s30 (gR s (r0 + 1) (gI s r0 2)) 0 x2 := ⟨_, rfl⟩
    replace h := h s34 f35
    refine J_sig f35 ?_
    have n36 : gN s34 = gN s := by rw [f35]; exact n33
    refine J_aload C dX7_insertLike_31 0 rfl ?_
    refine J_iload_n C dX7_insertLike_33 rfl 4 rfl ?_
    refine pf_X6_end C hs k28 wf_X7_43 g3 dX7_insertLike_34 ?_
    obtain ⟨s37, f38⟩ : ∃ z : Sg, z = sI s34 (gR s (r0 + 1) (gI s r0 2)) 1 x3 := ⟨_, rfl⟩
    replace h := h s37 f38
    refine J_sig f38 ?_
    have n39 : gN s37 = gN s := by rw [f38]; exact n36
    refine J_aload_n C dX7_insertLike_37 rfl 1 rfl ?_
    refine J_dup C dX7_insertLike_38 rfl ?_
    refine gf_X7_count C hs k0 wf_X7_24 dX7_insertLike_39 (fun g40 => ?_)
    refine J_iconst C dX7_insertLike_42 ?_
    refine J_iadd C dX7_insertLike_43 ?_
    obtain ⟨g43, h⟩ := h
    refine pf_X7_count C hs k0 wf_X7_24 g43 dX7_insertLike_44 ?_
    obtain ⟨s41, f42⟩ : ∃ z : Sg, z = sI s37 r0 2 ((gI s37 r0 2) + 1) := ⟨_, rfl⟩
    replace h := h s41 f42
    refine J_sig f42 ?_
    have n44 : gN s41 = gN s := by rw [f42]; exact n39
    refine J_aload_n C dX7_insertLike_47 rfl 1 rfl ?_
    refine J_aload_n C dX7_insertLike_48 rfl 1 rfl ?_
    refine gf_X7_count C hs k0 wf_X7_24 dX7_insertLike_49 (fun g45 => ?_)
    refine J_iconst C dX7_insertLike_52 ?_
    refine J_isub C dX7_insertLike_53 ?_
    obtain ⟨g46, h⟩ := h
    refine J_V C (ct_X7_settle hs k0 g46 h) ck_X7_settle wm_X7_53 win_X7_settle wsel_X7_settle (dmC hs k0 (by decide)) (clE_k E s41 k0) rfl ⟨rfl, rfl⟩ (by decide) (by decide) (As := [.int (jI ((gI s41 r0 2) - 1))]) (rest := []) rfl rfl (Nat.le_of_ble_eq_true rfl) dX7_insertLike_54 (J_kI (fun v47 s48 g49 h n50 => ?_))
    have n51 : gN s48 = gN s := n50.trans (n44)
    refine J_pop C dX7_insertLike_57 rfl ?_
    exact J_vret C (Nat.zero_le _) (Nat.zero_le _) dX7_insertLike_58 (by rw [hF]; exact ⟨rfl, h, n51⟩)
  · replace h := h.2 q52
    exact J_vret C (Nat.zero_le _) (Nat.zero_le _) dX7_insertLike_7 (by rw [hF]; exact ⟨rfl, h, rfl⟩)
set_option maxHeartbeats 4000000 in
set_option maxRecDepth 100000 in
theorem ct_X7_remove {l : Launch} {E : ET} (hs : eS E = true) {s : Sg} {r0 : Nat} (k0 : kdO r0 = 12) {x1 : Int} (g1 : rgI x1) {Q : Sg → Prop} (h : wp_X7_remove r0 x1 s Q) : MetE l E yX7_remove cX7_remove 4 none rm_X7_remove s [.ref (adE E r0), .int (jI x1)] (qV Q (gN s)) := by
  refine MetJ (by decide +kernel) (Nat.le_of_ble_eq_true rfl) ?_
  intro F hl C hF
  subst hl
  show JJ F E 0 0 s 0 [(0, .ref (adE E r0)), (1, .int (jI x1))] []
  refine J_aload_n C dX7_remove_0 rfl 0 rfl ?_
  refine J_iload_n C dX7_remove_1 rfl 1 rfl ?_
  refine J_V C (ct_X7_has hs k0 g1 h) ck_X7_has wm_X7_32 win_X7_has wsel_X7_has (dmC hs k0 (by decide)) (clE_k E s k0) rfl ⟨rfl, rfl⟩ (by decide) (by decide) (As := [.int (jI x1)]) (rest := []) rfl rfl (Nat.le_of_ble_eq_true rfl) dX7_remove_2 (J_pZ (fun v21 g23 h => ?_))
  refine J_if_ne C (rg_z g23) (tgt := 9) dX7_remove_5 (by decide) (fun q51 => ?_) (fun q51 => ?_)
  · replace h := h.2 q51
    refine J_aload_n C dX7_remove_9 rfl 0 rfl ?_
    refine gf_X7_rows C hs k0 wf_X7_11 dX7_remove_10 ?_
    refine J_iload_n C dX7_remove_13 rfl 1 rfl ?_
    obtain ⟨b25, b26, h⟩ := h
    refine J_aald C hs (kd12_rows k0) b25 b26 dX7_remove_14 (fun k27 => ?_)
    refine J_astore_n C dX7_remove_15 rfl (by decide) (lv' := [(2, .ref (adE E (gR s (r0 + 1) x1))), (0, .ref (adE E r0)), (1, .int (jI x1))]) rfl ?_
    refine J_iload_n C dX7_remove_16 rfl 2 rfl ?_
    refine J_istore_n C dX7_remove_17 rfl (by decide) (lv' := [(3, .int (jI x1)), (2, .ref (adE E (gR s (r0 + 1) x1))), (0, .ref (adE E r0)), (1, .int (jI x1))]) rfl ?_
    replace h := h (fun (x3_18 : Int) (sL18 : Sg) => rgI x3_18 → gN sL18 = gN s → JJ F E 0 0 sL18 18 [(0, .ref (adE E r0)), (2, .ref (adE E (gR s (r0 + 1) x1))), (3, .int (jI x3_18))] []) (by
      intro x3_18 sL18 h g3_18 nL18
      refine J_iload_n C dX7_remove_18 rfl 2 rfl ?_
      refine J_iconst C dX7_remove_19 ?_
      refine J_iadd C dX7_remove_20 ?_
      refine J_aload_n C dX7_remove_21 rfl 0 rfl ?_
      refine gf_X7_count C hs k0 wf_X7_24 dX7_remove_22 (fun g28 => ?_)
      obtain ⟨g29, h⟩ := h
      refine J_icmp_ge C g29 g28 (tgt := 48) dX7_remove_25 (by decide) (fun q50 => ?_) (fun q50 => ?_)
      · replace h := h.1 q50
        refine J_aload_n C dX7_remove_48 rfl 0 rfl ?_
        refine J_dup C dX7_remove_49 rfl ?_
        refine gf_X7_count C hs k0 wf_X7_24 dX7_remove_50 (fun g30 => ?_)
        refine J_iconst C dX7_remove_53 ?_
        refine J_isub C dX7_remove_54 ?_
        obtain ⟨g33, h⟩ := h
        refine pf_X7_count C hs k0 wf_X7_24 g33 dX7_remove_55 ?_
        obtain ⟨s31, f32⟩ : ∃ z : Sg, z = sI sL18 r0 2 ((gI sL18 r0 2) - 1) := ⟨_, rfl⟩
        replace h := h s31 f32
        refine J_sig f32 ?_
        have n34 : gN s31 = gN s := by rw [f32]; exact nL18
        refine J_aload_n C dX7_remove_58 rfl 0 rfl ?_
        refine gf_X7_rows C hs k0 wf_X7_11 dX7_remove_59 ?_
        refine J_aload_n C dX7_remove_62 rfl 0 rfl ?_
        refine gf_X7_count C hs k0 wf_X7_24 dX7_remove_63 (fun g35 => ?_)
        refine J_aload_n C dX7_remove_66 rfl 1 rfl ?_
        obtain ⟨b36, b37, h⟩ := h
        refine J_aast C hs (kd12_rows k0) k27 b36 b37 dX7_remove_67 ?_
        obtain ⟨s38, f39⟩ : ∃ z : Sg, z = sR s31 (r0 + 1) (gI s31 r0 2) (gR s (r0 + 1) x1) := ⟨_, rfl⟩
        replace h := h s38 f39
        refine J_sig f39 ?_
        have n40 : gN s38 = gN s := by rw [f39]; exact n34
        exact J_vret C (Nat.zero_le _) (Nat.zero_le _) dX7_remove_68 (by rw [hF]; exact ⟨rfl, h, n40⟩)
      · replace h := h.2 q50
        refine J_aload_n C dX7_remove_28 rfl 0 rfl ?_
        refine gf_X7_rows C hs k0 wf_X7_11 dX7_remove_29 ?_
        refine J_iload_n C dX7_remove_32 rfl 2 rfl ?_
        refine J_aload_n C dX7_remove_33 rfl 0 rfl ?_
        refine gf_X7_rows C hs k0 wf_X7_11 dX7_remove_34 ?_
        refine J_iload_n C dX7_remove_37 rfl 2 rfl ?_
        refine J_iconst C dX7_remove_38 ?_
        refine J_iadd C dX7_remove_39 ?_
        obtain ⟨b41, b42, h⟩ := h
        refine J_aald C hs (kd12_rows k0) b41 b42 dX7_remove_40 (fun k43 => ?_)
        obtain ⟨b44, b45, h⟩ := h
        refine J_aast C hs (kd12_rows k0) k43 b44 b45 dX7_remove_41 ?_
        obtain ⟨s46, f47⟩ : ∃ z : Sg, z = sR sL18 (r0 + 1) x3_18 (gR sL18 (r0 + 1) (x3_18 + 1)) := ⟨_, rfl⟩
        replace h := h s46 f47
        refine J_sig f47 ?_
        have n48 : gN s46 = gN s := by rw [f47]; exact nL18
        refine J_iinc C dX7_remove_42 2 rfl (by decide) (lv' := [(3, .int (jI (x3_18 + 1))), (0, .ref (adE E r0)), (2, .ref (adE E (gR s (r0 + 1) x1)))]) rfl ?_
        refine J_goto C (tgt := 18) dX7_remove_45 (by decide) ?_
        obtain ⟨g49, h⟩ := h
        exact J_sub [1, 2, 0] rfl (h g49 n48)
    )
    exact J_sub [2, 1, 0] rfl (h g1 rfl)
  · replace h := h.1 q51
    exact J_vret C (Nat.zero_le _) (Nat.zero_le _) dX7_remove_8 (by rw [hF]; exact ⟨rfl, h, rfl⟩)
set_option maxHeartbeats 4000000 in
set_option maxRecDepth 100000 in
theorem ct_X7_settleAll {l : Launch} {E : ET} (hs : eS E = true) {s : Sg} {r0 : Nat} (k0 : kdO r0 = 12) {Q : Sg → Prop} (h : wp_X7_settleAll r0 s Q) : MetE l E yX7_settleAll cX7_settleAll 2 none rm_X7_settleAll s [.ref (adE E r0)] (qV Q (gN s)) := by
  refine MetJ (by decide +kernel) (Nat.le_of_ble_eq_true rfl) ?_
  intro F hl C hF
  subst hl
  show JJ F E 0 0 s 0 [(0, .ref (adE E r0))] []
  refine J_iconst C dX7_settleAll_0 ?_
  refine J_istore_n C dX7_settleAll_1 rfl (by decide) (lv' := [(1, .int (jI 1)), (0, .ref (adE E r0))]) rfl ?_
  replace h := h (fun (x1_2 : Int) (sL2 : Sg) => rgI x1_2 → gN sL2 = gN s → JJ F E 0 0 sL2 2 [(0, .ref (adE E r0)), (1, .int (jI x1_2))] []) (by
    intro x1_2 sL2 h g1_2 nL2
    refine J_iload_n C dX7_settleAll_2 rfl 1 rfl ?_
    refine J_aload_n C dX7_settleAll_3 rfl 0 rfl ?_
    refine gf_X7_count C hs k0 wf_X7_24 dX7_settleAll_4 (fun g21 => ?_)
    refine J_icmp_ge C g1_2 g21 (tgt := 22) dX7_settleAll_7 (by decide) (fun q28 => ?_) (fun q28 => ?_)
    · replace h := h.1 q28
      exact J_vret C (Nat.zero_le _) (Nat.zero_le _) dX7_settleAll_22 (by rw [hF]; exact ⟨rfl, h, nL2⟩)
    · replace h := h.2 q28
      refine J_aload_n C dX7_settleAll_10 rfl 0 rfl ?_
      refine J_iload_n C dX7_settleAll_11 rfl 1 rfl ?_
      refine J_V C (ct_X7_settle hs k0 g1_2 h) ck_X7_settle wm_X7_53 win_X7_settle wsel_X7_settle (dmC hs k0 (by decide)) (clE_k E sL2 k0) rfl ⟨rfl, rfl⟩ (by decide) (by decide) (As := [.int (jI x1_2)]) (rest := []) rfl rfl (Nat.le_of_ble_eq_true rfl) dX7_settleAll_12 (J_kI (fun v22 s23 g24 h n25 => ?_))
      have n26 : gN s23 = gN s := n25.trans (nL2)
      refine J_pop C dX7_settleAll_15 rfl ?_
      refine J_iinc C dX7_settleAll_16 1 rfl (by decide) (lv' := [(1, .int (jI (x1_2 + 1))), (0, .ref (adE E r0))]) rfl ?_
      refine J_goto C (tgt := 2) dX7_settleAll_19 (by decide) ?_
      obtain ⟨g27, h⟩ := h
      exact J_sub [1, 0] rfl (h g27 n26)
  )
  exact J_sub [1, 0] rfl (h (rgN 1 (by decide)) rfl)
set_option maxHeartbeats 4000000 in
set_option maxRecDepth 100000 in
theorem ct_X7_allLengths {l : Launch} {E : ET} (hs : eS E = true) {s : Sg} {r0 : Nat} (k0 : kdO r0 = 12) {Q : Int → Prop} (h : wp_X7_allLengths r0 s Q) : MetE l E yX7_allLengths cX7_allLengths 3 (some .int) rm_X7_allLengths s [.ref (adE E r0)] (qI (fun r t => Q r ∧ t = s) (gN s)) := by
  refine MetJ (by decide +kernel) (Nat.le_of_ble_eq_true rfl) ?_
  intro F hl C hF
  subst hl
  show JJ F E 0 0 s 0 [(0, .ref (adE E r0))] []
  refine J_iconst C dX7_allLengths_0 ?_
  refine J_istore_n C dX7_allLengths_1 rfl (by decide) (lv' := [(1, .int (jI 0)), (0, .ref (adE E r0))]) rfl ?_
  refine J_iconst C dX7_allLengths_2 ?_
  refine J_istore_n C dX7_allLengths_3 rfl (by decide) (lv' := [(2, .int (jI 0)), (1, .int (jI 0)), (0, .ref (adE E r0))]) rfl ?_
  replace h := h (fun (x1_4 : Int) (x2_4 : Int) => rgI x1_4 → rgI x2_4 → JJ F E 0 0 s 4 [(0, .ref (adE E r0)), (1, .int (jI x1_4)), (2, .int (jI x2_4))] []) (by
    intro x1_4 x2_4 h g1_4 g2_4
    refine J_iload_n C dX7_allLengths_4 rfl 2 rfl ?_
    refine J_aload_n C dX7_allLengths_5 rfl 0 rfl ?_
    refine gf_X7_count C hs k0 wf_X7_24 dX7_allLengths_6 (fun g21 => ?_)
    refine J_icmp_ge C g2_4 g21 (tgt := 30) dX7_allLengths_9 (by decide) (fun q31 => ?_) (fun q31 => ?_)
    · replace h := h.1 q31
      refine J_iload_n C dX7_allLengths_30 rfl 1 rfl ?_
      exact J_iret C (Nat.zero_le _) (Nat.zero_le _) dX7_allLengths_31 (by rw [hF]; exact ⟨_, rfl, g1_4, ⟨h, rfl⟩, rfl⟩)
    · replace h := h.2 q31
      refine J_iload_n C dX7_allLengths_12 rfl 1 rfl ?_
      refine J_aload_n C dX7_allLengths_13 rfl 0 rfl ?_
      refine gf_X7_rows C hs k0 wf_X7_11 dX7_allLengths_14 ?_
      refine J_iload_n C dX7_allLengths_17 rfl 2 rfl ?_
      obtain ⟨b22, b23, h⟩ := h
      refine J_aald C hs (kd12_rows k0) b22 b23 dX7_allLengths_18 (fun k24 => ?_)
      refine J_V C (ct_X6_length hs k24 h) ck_X6_length wm_X7_65 win_X6_length wsel_X6_length (dmC hs k24 (by decide)) (clE_k E s k24) rfl ⟨rfl, rfl⟩ (by decide) (by decide) (As := []) (rest := [.int (jI x1_4)]) rfl rfl (Nat.le_of_ble_eq_true rfl) dX7_allLengths_19 (J_pI (fun v25 g27 h => ?_))
      refine J_iadd C dX7_allLengths_22 ?_
      obtain ⟨x1_23, e29⟩ : ∃ v : Int, v = (x1_4 + v25) := ⟨_, rfl⟩
      obtain ⟨g1_23, h⟩ := h x1_23 e29
      refine J_top e29 ?_
      refine J_istore_n C dX7_allLengths_23 rfl (by decide) (lv' := [(1, .int (jI x1_23)), (0, .ref (adE E r0)), (2, .int (jI x2_4))]) rfl ?_
      refine J_iinc C dX7_allLengths_24 2 rfl (by decide) (lv' := [(2, .int (jI (x2_4 + 1))), (1, .int (jI x1_23)), (0, .ref (adE E r0))]) rfl ?_
      refine J_goto C (tgt := 4) dX7_allLengths_27 (by decide) ?_
      obtain ⟨g30, h⟩ := h
      exact J_sub [2, 1, 0] rfl (h g1_23 g30)
  )
  exact J_sub [2, 1, 0] rfl (h (rgN 0 (by decide)) (rgN 0 (by decide)))
set_option maxHeartbeats 4000000 in
set_option maxRecDepth 100000 in
theorem ct_X7_greatestEnd {l : Launch} {E : ET} (hs : eS E = true) {s : Sg} {r0 : Nat} (k0 : kdO r0 = 12) {Q : Int → Prop} (h : wp_X7_greatestEnd r0 s Q) : MetE l E yX7_greatestEnd cX7_greatestEnd 3 (some .int) rm_X7_greatestEnd s [.ref (adE E r0)] (qI (fun r t => Q r ∧ t = s) (gN s)) := by
  refine MetJ (by decide +kernel) (Nat.le_of_ble_eq_true rfl) ?_
  intro F hl C hF
  subst hl
  show JJ F E 0 0 s 0 [(0, .ref (adE E r0))] []
  refine J_iconst C dX7_greatestEnd_0 ?_
  refine J_istore_n C dX7_greatestEnd_1 rfl (by decide) (lv' := [(1, .int (jI 0)), (0, .ref (adE E r0))]) rfl ?_
  refine J_iconst C dX7_greatestEnd_2 ?_
  refine J_istore_n C dX7_greatestEnd_3 rfl (by decide) (lv' := [(2, .int (jI 0)), (1, .int (jI 0)), (0, .ref (adE E r0))]) rfl ?_
  replace h := h (fun (x1_4 : Int) (x2_4 : Int) => rgI x1_4 → rgI x2_4 → JJ F E 0 0 s 4 [(0, .ref (adE E r0)), (1, .int (jI x1_4)), (2, .int (jI x2_4))] []) (by
    intro x1_4 x2_4 h g1_4 g2_4
    refine J_iload_n C dX7_greatestEnd_4 rfl 2 rfl ?_
    refine J_aload_n C dX7_greatestEnd_5 rfl 0 rfl ?_
    refine gf_X7_count C hs k0 wf_X7_24 dX7_greatestEnd_6 (fun g21 => ?_)
    refine J_icmp_ge C g2_4 g21 (tgt := 32) dX7_greatestEnd_9 (by decide) (fun q28 => ?_) (fun q28 => ?_)
    · replace h := h.1 q28
      refine J_iload_n C dX7_greatestEnd_32 rfl 1 rfl ?_
      exact J_iret C (Nat.zero_le _) (Nat.zero_le _) dX7_greatestEnd_33 (by rw [hF]; exact ⟨_, rfl, g1_4, ⟨h, rfl⟩, rfl⟩)
    · replace h := h.2 q28
      refine J_iload_n C dX7_greatestEnd_12 rfl 1 rfl ?_
      refine J_aload_n C dX7_greatestEnd_13 rfl 0 rfl ?_
      refine gf_X7_rows C hs k0 wf_X7_11 dX7_greatestEnd_14 ?_
      refine J_iload_n C dX7_greatestEnd_17 rfl 2 rfl ?_
      obtain ⟨b22, b23, h⟩ := h
      refine J_aald C hs (kd12_rows k0) b22 b23 dX7_greatestEnd_18 (fun k24 => ?_)
      refine gf_X6_end C hs k24 wf_X7_43 dX7_greatestEnd_19 (fun g25 => ?_)
      refine J_max C g1_4 g25 wm_X7_69 wst_max win_Math wco_max (by decide) (Nat.le_of_ble_eq_true rfl) (by decide) dX7_greatestEnd_22 ?_
      obtain ⟨x1_25, e26⟩ : ∃ v : Int, v = (max x1_4 (gI s (gR s (r0 + 1) x2_4) 1)) := ⟨_, rfl⟩
      replace h := h x1_25 e26
      have g1_25 : rgI x1_25 := by rw [e26]; exact (rg_max g1_4 g25)
      refine J_top e26 ?_
      refine J_istore_n C dX7_greatestEnd_25 rfl (by decide) (lv' := [(1, .int (jI x1_25)), (0, .ref (adE E r0)), (2, .int (jI x2_4))]) rfl ?_
      refine J_iinc C dX7_greatestEnd_26 2 rfl (by decide) (lv' := [(2, .int (jI (x2_4 + 1))), (1, .int (jI x1_25)), (0, .ref (adE E r0))]) rfl ?_
      refine J_goto C (tgt := 4) dX7_greatestEnd_29 (by decide) ?_
      obtain ⟨g27, h⟩ := h
      exact J_sub [2, 1, 0] rfl (h g1_25 g27)
  )
  exact J_sub [2, 1, 0] rfl (h (rgN 0 (by decide)) (rgN 0 (by decide)))
set_option maxHeartbeats 4000000 in
set_option maxRecDepth 100000 in
theorem ct_X7_countPairs {l : Launch} {E : ET} (hs : eS E = true) {s : Sg} {r0 : Nat} (k0 : kdO r0 = 12) {Q : Int → Prop} (h : wp_X7_countPairs r0 s Q) : MetE l E yX7_countPairs cX7_countPairs 3 (some .int) rm_X7_countPairs s [.ref (adE E r0)] (qI (fun r t => Q r ∧ t = s) (gN s)) := by
  refine MetJ (by decide +kernel) (Nat.le_of_ble_eq_true rfl) ?_
  intro F hl C hF
  subst hl
  show JJ F E 0 0 s 0 [(0, .ref (adE E r0))] []
  refine J_iconst C dX7_countPairs_0 ?_
  refine J_istore_n C dX7_countPairs_1 rfl (by decide) (lv' := [(1, .int (jI 0)), (0, .ref (adE E r0))]) rfl ?_
  refine J_iconst C dX7_countPairs_2 ?_
  refine J_istore_n C dX7_countPairs_3 rfl (by decide) (lv' := [(2, .int (jI 0)), (1, .int (jI 0)), (0, .ref (adE E r0))]) rfl ?_
  replace h := h (fun (x1_4 : Int) (x2_4 : Int) => rgI x1_4 → rgI x2_4 → JJ F E 0 0 s 4 [(0, .ref (adE E r0)), (1, .int (jI x1_4)), (2, .int (jI x2_4))] []) (by
    intro x1_4 x2_4 h g1_4 g2_4
    have j28 : ∀ (x1 : Int) (x2 : Int), wj_X7_countPairs_28 (fun (x1_4 : Int) (x2_4 : Int) => rgI x1_4 → rgI x2_4 → JJ F E 0 0 s 4 [(0, .ref (adE E r0)), (1, .int (jI x1_4)), (2, .int (jI x2_4))] []) r0 x1 x2 s Q → rgI x1 → rgI x2 → JJ F E 0 0 s 28 [(0, .ref (adE E r0)), (1, .int (jI x1)), (2, .int (jI x2))] [] := by
      intro x1 x2 h g1 g2
      refine J_iinc C dX7_countPairs_28 2 rfl (by decide) (lv' := [(2, .int (jI (x2 + 1))), (0, .ref (adE E r0)), (1, .int (jI x1))]) rfl ?_
      refine J_goto C (tgt := 4) dX7_countPairs_31 (by decide) ?_
      obtain ⟨g26, h⟩ := h
      exact J_sub [1, 2, 0] rfl (h g1 g26)
    refine J_iload_n C dX7_countPairs_4 rfl 2 rfl ?_
    refine J_aload_n C dX7_countPairs_5 rfl 0 rfl ?_
    refine gf_X7_count C hs k0 wf_X7_24 dX7_countPairs_6 (fun g21 => ?_)
    refine J_icmp_ge C g2_4 g21 (tgt := 34) dX7_countPairs_9 (by decide) (fun q29 => ?_) (fun q29 => ?_)
    · replace h := h.1 q29
      refine J_iload_n C dX7_countPairs_34 rfl 1 rfl ?_
      exact J_iret C (Nat.zero_le _) (Nat.zero_le _) dX7_countPairs_35 (by rw [hF]; exact ⟨_, rfl, g1_4, ⟨h, rfl⟩, rfl⟩)
    · replace h := h.2 q29
      refine J_aload_n C dX7_countPairs_12 rfl 0 rfl ?_
      refine gf_X7_rows C hs k0 wf_X7_11 dX7_countPairs_13 ?_
      refine J_iload_n C dX7_countPairs_16 rfl 2 rfl ?_
      obtain ⟨b22, b23, h⟩ := h
      refine J_aald C hs (kd12_rows k0) b22 b23 dX7_countPairs_17 (fun k24 => ?_)
      refine gf_X6_parts C hs k24 wf_X7_46 dX7_countPairs_18 (fun g25 => ?_)
      refine J_iconst C dX7_countPairs_21 ?_
      refine J_icmp_ne C g25 (rgN 2 (by decide)) (tgt := 28) dX7_countPairs_22 (by decide) (fun q28 => ?_) (fun q28 => ?_)
      · replace h := h.2 q28
        exact J_sub [0, 1, 2] rfl (j28 _ _ h g1_4 g2_4)
      · replace h := h.1 q28
        refine J_iinc C dX7_countPairs_25 1 rfl (by decide) (lv' := [(1, .int (jI (x1_4 + 1))), (0, .ref (adE E r0)), (2, .int (jI x2_4))]) rfl ?_
        obtain ⟨g27, h⟩ := h
        exact J_sub [1, 0, 2] rfl (j28 _ _ h g27 g2_4)
  )
  exact J_sub [2, 1, 0] rfl (h (rgN 0 (by decide)) (rgN 0 (by decide)))
