/-! contracts (printed by wip/whole/gen) -/
set_option maxHeartbeats 4000000 in
set_option maxRecDepth 100000 in
theorem ct_X9_ifConform {l : Launch} {E : ET} (hs : eS E = true) {s : Sg} {x1 : Int} (g1 : rgI x1) {x2 : Int} (g2 : rgI x2) {Q : Int → Sg → Prop} (h : wp_X9_ifConform x1 x2 s Q) : MetE l E yX9_ifConform cX9_ifConform 3 (some .int) rm_X9_ifConform s [.ref (adE E 0), .int (jI x1), .int (jI x2)] (qI Q (gN s)) := by
  refine MetJ (by decide +kernel) (Nat.le_of_ble_eq_true rfl) ?_
  intro F hl C hF
  subst hl
  show JJ F E 0 0 s 0 [(0, .ref (adE E 0)), (1, .int (jI x1)), (2, .int (jI x2))] []
  refine J_iload_n C dX9_ifConform_0 rfl 1 rfl ?_
  refine J_iconst C dX9_ifConform_1 ?_
  refine J_bipush C dX9_ifConform_2 (by decide) ?_
  refine J_S C (ct_X9_isWithin hs g1 (rgN 1 (by decide)) (rgN 31 (by decide)) h) ck_X9_isWithin wm_X9_41 wst_X9_isWithin ⟨rfl, rfl⟩ (by decide) (by decide) (As := [.int (jI x1), .int (jI 1), .int (jI 31)]) (rest := []) rfl rfl (Nat.le_of_ble_eq_true rfl) dX9_ifConform_4 (J_pZ (fun v21 g23 h => ?_))
  refine J_if_eq C (rg_z g23) (tgt := 19) dX9_ifConform_7 (by decide) (fun q54 => ?_) (fun q54 => ?_)
  · replace h := h.1 q54
    refine J_iconst C dX9_ifConform_19 ?_
    exact J_iret C (Nat.zero_le _) (Nat.zero_le _) dX9_ifConform_20 (by rw [hF]; exact ⟨_, rfl, (rgN (-1) (by decide)), h, rfl⟩)
  · replace h := h.2 q54
    refine J_iload_n C dX9_ifConform_10 rfl 2 rfl ?_
    refine J_iconst C dX9_ifConform_11 ?_
    refine J_iconst C dX9_ifConform_12 ?_
    refine J_S C (ct_X9_isWithin hs g2 (rgN 0 (by decide)) (rgN 4 (by decide)) h) ck_X9_isWithin wm_X9_41 wst_X9_isWithin ⟨rfl, rfl⟩ (by decide) (by decide) (As := [.int (jI x2), .int (jI 0), .int (jI 4)]) (rest := []) rfl rfl (Nat.le_of_ble_eq_true rfl) dX9_ifConform_13 (J_pZ (fun v25 g27 h => ?_))
    refine J_if_ne C (rg_z g27) (tgt := 21) dX9_ifConform_16 (by decide) (fun q53 => ?_) (fun q53 => ?_)
    · replace h := h.2 q53
      refine J_aload_n C dX9_ifConform_21 rfl 0 rfl ?_
      refine gf_X9_trial C hs wf_X9_30 dX9_ifConform_22 ?_
      refine J_aload_n C dX9_ifConform_25 rfl 0 rfl ?_
      refine gf_X9_now C hs wf_X9_23 dX9_ifConform_26 ?_
      refine J_iload_n C dX9_ifConform_29 rfl 1 rfl ?_
      refine J_V C (ct_X8_carryOut hs kc4 g1 h) ck_X8_carryOut wm_X9_199 win_X8_carryOut wsel_X8_carryOut (dmC hs kc31 (by decide)) (clE_k E s kc31) rfl ⟨rfl, rfl⟩ (by decide) (by decide) (As := [.ref (adE E 4), .int (jI x1)]) (rest := []) rfl rfl (Nat.le_of_ble_eq_true rfl) dX9_ifConform_30 (J_kZ (fun v29 s30 g31 h n32 => ?_))
      have n33 : gN s30 = gN s := n32
      refine J_if_ne C (rg_z g31) (tgt := 39) dX9_ifConform_33 (by decide) (fun q52 => ?_) (fun q52 => ?_)
      · replace h := h.2 q52
        refine J_iload_n C dX9_ifConform_39 rfl 2 rfl ?_
        have q34 : (x2 < 0 ∨ 3 < x2) ∨ x2 = 0 ∨ x2 = 1 ∨ x2 = 2 ∨ x2 = 3 := by omega
        rcases q34 with q34 | q34 | q34 | q34 | q34
        · replace h := h.2.2.2.2 q34
          refine J_tswOut C g2 (tgt := 126) dX9_ifConform_40 q34 (by decide) ?_
          refine J_aload_n C dX9_ifConform_126 rfl 0 rfl ?_
          refine gf_X9_trial C hs wf_X9_30 dX9_ifConform_127 ?_
          refine gf_X8_lost C hs wf_X9_218 dX9_ifConform_130 (fun g35 => ?_)
          exact J_iret C (Nat.zero_le _) (Nat.zero_le _) dX9_ifConform_133 (by rw [hF]; exact ⟨_, rfl, g35, h, n33⟩)
        · replace h := h.1 q34
          refine J_tswIn C q34 (rgN 0 (by decide)) (tgt := 72) (off := 32) dX9_ifConform_40 (by decide) (by decide) rfl (by decide) ?_
          refine J_aload_n C dX9_ifConform_72 rfl 0 rfl ?_
          refine gf_X9_trial C hs wf_X9_30 dX9_ifConform_73 ?_
          refine gf_X8_result C hs wf_X9_203 dX9_ifConform_76 ?_
          refine gf_X5_track C hs kc34 wf_X9_114 dX9_ifConform_79 ?_
          refine J_V C (ct_X7_size hs (kd5_track kc34) h) ck_X7_size wm_X9_132 win_X7_size wsel_X7_size (dmC hs (kd5_track kc34) (by decide)) (clE_k E s30 (kd5_track kc34)) rfl ⟨rfl, rfl⟩ (by decide) (by decide) (As := []) (rest := []) rfl rfl (Nat.le_of_ble_eq_true rfl) dX9_ifConform_82 (J_pI (fun v36 g38 h => ?_))
          exact J_iret C (Nat.zero_le _) (Nat.zero_le _) dX9_ifConform_85 (by rw [hF]; exact ⟨_, rfl, g38, h, n33⟩)
        · replace h := h.2.1 q34
          refine J_tswIn C q34 (rgN 1 (by decide)) (tgt := 86) (off := 46) dX9_ifConform_40 (by decide) (by decide) rfl (by decide) ?_
          refine J_aload_n C dX9_ifConform_86 rfl 0 rfl ?_
          refine gf_X9_trial C hs wf_X9_30 dX9_ifConform_87 ?_
          refine gf_X8_result C hs wf_X9_203 dX9_ifConform_90 ?_
          refine gf_X5_track C hs kc34 wf_X9_114 dX9_ifConform_93 ?_
          refine J_V C (ct_X7_allLengths hs (kd5_track kc34) h) ck_X7_allLengths wm_X9_209 win_X7_allLengths wsel_X7_allLengths (dmC hs (kd5_track kc34) (by decide)) (clE_k E s30 (kd5_track kc34)) rfl ⟨rfl, rfl⟩ (by decide) (by decide) (As := []) (rest := []) rfl rfl (Nat.le_of_ble_eq_true rfl) dX9_ifConform_96 (J_pI (fun v40 g42 h => ?_))
          exact J_iret C (Nat.zero_le _) (Nat.zero_le _) dX9_ifConform_99 (by rw [hF]; exact ⟨_, rfl, g42, h, n33⟩)
        · replace h := h.2.2.1 q34
          refine J_tswIn C q34 (rgN 2 (by decide)) (tgt := 100) (off := 60) dX9_ifConform_40 (by decide) (by decide) rfl (by decide) ?_
          refine J_aload_n C dX9_ifConform_100 rfl 0 rfl ?_
          refine gf_X9_trial C hs wf_X9_30 dX9_ifConform_101 ?_
          refine gf_X8_result C hs wf_X9_203 dX9_ifConform_104 ?_
          refine J_iconst C dX9_ifConform_107 ?_
          refine J_V C (ct_X5_countFaulty hs kc34 (rgN 0 (by decide)) h) ck_X5_countFaulty wm_X9_212 win_X5_countFaulty wsel_X5_countFaulty (dmC hs kc34 (by decide)) (clE_k E s30 kc34) rfl ⟨rfl, rfl⟩ (by decide) (by decide) (As := [.int (jI 0)]) (rest := []) rfl rfl (Nat.le_of_ble_eq_true rfl) dX9_ifConform_108 (J_pI (fun v44 g46 h => ?_))
          exact J_iret C (Nat.zero_le _) (Nat.zero_le _) dX9_ifConform_111 (by rw [hF]; exact ⟨_, rfl, g46, h, n33⟩)
        · replace h := h.2.2.2.1 q34
          refine J_tswIn C q34 (rgN 3 (by decide)) (tgt := 112) (off := 72) dX9_ifConform_40 (by decide) (by decide) rfl (by decide) ?_
          refine J_aload_n C dX9_ifConform_112 rfl 0 rfl ?_
          refine gf_X9_trial C hs wf_X9_30 dX9_ifConform_113 ?_
          refine gf_X8_result C hs wf_X9_203 dX9_ifConform_116 ?_
          refine gf_X5_track C hs kc34 wf_X9_114 dX9_ifConform_119 ?_
          refine J_V C (ct_X7_greatestEnd hs (kd5_track kc34) h) ck_X7_greatestEnd wm_X9_215 win_X7_greatestEnd wsel_X7_greatestEnd (dmC hs (kd5_track kc34) (by decide)) (clE_k E s30 (kd5_track kc34)) rfl ⟨rfl, rfl⟩ (by decide) (by decide) (As := []) (rest := []) rfl rfl (Nat.le_of_ble_eq_true rfl) dX9_ifConform_122 (J_pI (fun v48 g50 h => ?_))
          exact J_iret C (Nat.zero_le _) (Nat.zero_le _) dX9_ifConform_125 (by rw [hF]; exact ⟨_, rfl, g50, h, n33⟩)
      · replace h := h.1 q52
        refine J_bipush C dX9_ifConform_36 (by decide) ?_
        exact J_iret C (Nat.zero_le _) (Nat.zero_le _) dX9_ifConform_38 (by rw [hF]; exact ⟨_, rfl, (rgN (-3) (by decide)), h, n33⟩)
    · replace h := h.1 q53
      refine J_iconst C dX9_ifConform_19 ?_
      exact J_iret C (Nat.zero_le _) (Nat.zero_le _) dX9_ifConform_20 (by rw [hF]; exact ⟨_, rfl, (rgN (-1) (by decide)), h, rfl⟩)
set_option maxHeartbeats 4000000 in
set_option maxRecDepth 100000 in
theorem ct_X9_stretches {l : Launch} {E : ET} (hs : eS E = true) {s : Sg} {x1 : Int} (g1 : rgI x1) {Q : Int → Sg → Prop} (h : wp_X9_stretches x1 s Q) : MetE l E yX9_stretches cX9_stretches 2 (some .int) rm_X9_stretches s [.ref (adE E 0), .int (jI x1)] (qI Q (gN s)) := by
  refine MetJ (by decide +kernel) (Nat.le_of_ble_eq_true rfl) ?_
  intro F hl C hF
  subst hl
  show JJ F E 0 0 s 0 [(0, .ref (adE E 0)), (1, .int (jI x1))] []
  refine J_aload_n C dX9_stretches_0 rfl 0 rfl ?_
  refine gf_X9_now C hs wf_X9_23 dX9_stretches_1 ?_
  refine gf_X5_track C hs kc4 wf_X9_114 dX9_stretches_4 ?_
  refine J_iload_n C dX9_stretches_7 rfl 1 rfl ?_
  refine J_V C (ct_X7_has hs (kd5_track kc4) g1 h) ck_X7_has wm_X9_130 win_X7_has wsel_X7_has (dmC hs (kd5_track kc4) (by decide)) (clE_k E s (kd5_track kc4)) rfl ⟨rfl, rfl⟩ (by decide) (by decide) (As := [.int (jI x1)]) (rest := []) rfl rfl (Nat.le_of_ble_eq_true rfl) dX9_stretches_8 (J_pZ (fun v21 g23 h => ?_))
  refine J_if_ne C (rg_z g23) (tgt := 16) dX9_stretches_11 (by decide) (fun q34 => ?_) (fun q34 => ?_)
  · replace h := h.2 q34
    refine J_aload_n C dX9_stretches_16 rfl 0 rfl ?_
    refine gf_X9_trial C hs wf_X9_30 dX9_stretches_17 ?_
    refine J_aload_n C dX9_stretches_20 rfl 0 rfl ?_
    refine gf_X9_now C hs wf_X9_23 dX9_stretches_21 ?_
    refine gf_X5_track C hs kc4 wf_X9_114 dX9_stretches_24 ?_
    refine J_iload_n C dX9_stretches_27 rfl 1 rfl ?_
    refine J_V C (ct_X7_at hs (kd5_track kc4) g1 h) ck_X7_at wm_X9_137 win_X7_at wsel_X7_at (dmC hs (kd5_track kc4) (by decide)) (clE_k E s (kd5_track kc4)) rfl ⟨rfl, rfl⟩ (by decide) (by decide) (As := [.int (jI x1)]) (rest := [.ref (adE E 31)]) rfl rfl (Nat.le_of_ble_eq_true rfl) dX9_stretches_28 (J_pR (fun r25 g27 h => ?_))
    refine J_aload_n C dX9_stretches_31 rfl 0 rfl ?_
    refine gf_X9_now C hs wf_X9_23 dX9_stretches_32 ?_
    refine gf_X5_cut C hs kc4 wf_X9_45 dX9_stretches_35 ?_
    refine J_V C (ct_X8_countStretches hs g27 (kd5_cut kc4) h) ck_X8_countStretches wm_X9_221 win_X8_countStretches wsel_X8_countStretches (dmC hs kc31 (by decide)) (clE_k E s kc31) rfl ⟨rfl, rfl⟩ (by decide) (by decide) (As := [.ref (adE E r25), .ref (adE E (4 + 1))]) (rest := []) rfl rfl (Nat.le_of_ble_eq_true rfl) dX9_stretches_38 (J_kI (fun v29 s30 g31 h n32 => ?_))
    have n33 : gN s30 = gN s := n32
    exact J_iret C (Nat.zero_le _) (Nat.zero_le _) dX9_stretches_41 (by rw [hF]; exact ⟨_, rfl, g31, h, n33⟩)
  · replace h := h.1 q34
    refine J_iconst C dX9_stretches_14 ?_
    exact J_iret C (Nat.zero_le _) (Nat.zero_le _) dX9_stretches_15 (by rw [hF]; exact ⟨_, rfl, (rgN (-1) (by decide)), h, rfl⟩)
set_option maxHeartbeats 4000000 in
set_option maxRecDepth 100000 in
theorem ct_X9_shown {l : Launch} {E : ET} (hs : eS E = true) {s : Sg} {x1 : Int} (g1 : rgI x1) {Q : Int → Prop} (h : wp_X9_shown x1 s Q) : MetE l E yX9_shown cX9_shown 2 (some .int) rm_X9_shown s [.ref (adE E 0), .int (jI x1)] (qI (fun r t => Q r ∧ t = s) (gN s)) := by
  refine MetJ (by decide +kernel) (Nat.le_of_ble_eq_true rfl) ?_
  intro F hl C hF
  subst hl
  show JJ F E 0 0 s 0 [(0, .ref (adE E 0)), (1, .int (jI x1))] []
  refine J_iload_n C dX9_shown_0 rfl 1 rfl ?_
  refine J_iconst C dX9_shown_1 ?_
  refine J_sipush C dX9_shown_2 (by decide) ?_
  refine J_S C (ct_X9_isWithin hs g1 (rgN 0 (by decide)) (rgN 9999 (by decide)) h) ck_X9_isWithin wm_X9_41 wst_X9_isWithin ⟨rfl, rfl⟩ (by decide) (by decide) (As := [.int (jI x1), .int (jI 0), .int (jI 9999)]) (rest := []) rfl rfl (Nat.le_of_ble_eq_true rfl) dX9_shown_5 (J_pZ (fun v21 g23 h => ?_))
  refine J_if_eq C (rg_z g23) (tgt := 25) dX9_shown_8 (by decide) (fun q29 => ?_) (fun q29 => ?_)
  · replace h := h.1 q29
    refine J_iconst C dX9_shown_25 ?_
    exact J_iret C (Nat.zero_le _) (Nat.zero_le _) dX9_shown_26 (by rw [hF]; exact ⟨_, rfl, (rgN (-1) (by decide)), ⟨h, rfl⟩, rfl⟩)
  · replace h := h.2 q29
    refine J_aload_n C dX9_shown_11 rfl 0 rfl ?_
    refine gf_X9_now C hs wf_X9_23 dX9_shown_12 ?_
    refine gf_X5_track C hs kc4 wf_X9_114 dX9_shown_15 ?_
    refine J_iload_n C dX9_shown_18 rfl 1 rfl ?_
    refine J_V C (ct_X7_shownAt hs (kd5_track kc4) g1 h) ck_X7_shownAt wm_X9_225 win_X7_shownAt wsel_X7_shownAt (dmC hs (kd5_track kc4) (by decide)) (clE_k E s (kd5_track kc4)) rfl ⟨rfl, rfl⟩ (by decide) (by decide) (As := [.int (jI x1)]) (rest := []) rfl rfl (Nat.le_of_ble_eq_true rfl) dX9_shown_19 (J_pI (fun v25 g27 h => ?_))
    refine J_goto C (tgt := 26) dX9_shown_22 (by decide) ?_
    exact J_iret C (Nat.zero_le _) (Nat.zero_le _) dX9_shown_26 (by rw [hF]; exact ⟨_, rfl, g27, ⟨h, rfl⟩, rfl⟩)
set_option maxHeartbeats 4000000 in
set_option maxRecDepth 100000 in
theorem ct_X9_faults {l : Launch} {E : ET} (hs : eS E = true) {s : Sg} {x1 : Int} (g1 : rgI x1) {Q : Int → Prop} (h : wp_X9_faults x1 s Q) : MetE l E yX9_faults cX9_faults 2 (some .int) rm_X9_faults s [.ref (adE E 0), .int (jI x1)] (qI (fun r t => Q r ∧ t = s) (gN s)) := by
  refine MetJ (by decide +kernel) (Nat.le_of_ble_eq_true rfl) ?_
  intro F hl C hF
  subst hl
  show JJ F E 0 0 s 0 [(0, .ref (adE E 0)), (1, .int (jI x1))] []
  refine J_iload_n C dX9_faults_0 rfl 1 rfl ?_
  refine J_iconst C dX9_faults_1 ?_
  refine J_bipush C dX9_faults_2 (by decide) ?_
  refine J_S C (ct_X9_isWithin hs g1 (rgN 0 (by decide)) (rgN 32 (by decide)) h) ck_X9_isWithin wm_X9_41 wst_X9_isWithin ⟨rfl, rfl⟩ (by decide) (by decide) (As := [.int (jI x1), .int (jI 0), .int (jI 32)]) (rest := []) rfl rfl (Nat.le_of_ble_eq_true rfl) dX9_faults_4 (J_pZ (fun v21 g23 h => ?_))
  refine J_if_eq C (rg_z g23) (tgt := 18) dX9_faults_7 (by decide) (fun q30 => ?_) (fun q30 => ?_)
  · replace h := h.1 q30
    refine J_iconst C dX9_faults_18 ?_
    exact J_iret C (Nat.zero_le _) (Nat.zero_le _) dX9_faults_19 (by rw [hF]; exact ⟨_, rfl, (rgN (-1) (by decide)), ⟨h, rfl⟩, rfl⟩)
  · replace h := h.2 q30
    refine J_iload_n C dX9_faults_10 rfl 1 rfl ?_
    refine J_bitCount C wm_X9_228 (by decide) (Nat.le_of_ble_eq_true rfl) (by decide) dX9_faults_11 (fun z9 => ?_)
    refine J_iconst C dX9_faults_14 ?_
    refine J_icmp_le C z9 (rgN 1 (by decide)) (tgt := 20) dX9_faults_15 (by decide) (fun q29 => ?_) (fun q29 => ?_)
    · replace h := h.1 q29
      refine J_aload_n C dX9_faults_20 rfl 0 rfl ?_
      refine gf_X9_now C hs wf_X9_23 dX9_faults_21 ?_
      refine J_iload_n C dX9_faults_24 rfl 1 rfl ?_
      refine J_V C (ct_X5_countFaulty hs kc4 g1 h) ck_X5_countFaulty wm_X9_212 win_X5_countFaulty wsel_X5_countFaulty (dmC hs kc4 (by decide)) (clE_k E s kc4) rfl ⟨rfl, rfl⟩ (by decide) (by decide) (As := [.int (jI x1)]) (rest := []) rfl rfl (Nat.le_of_ble_eq_true rfl) dX9_faults_25 (J_pI (fun v25 g27 h => ?_))
      exact J_iret C (Nat.zero_le _) (Nat.zero_le _) dX9_faults_28 (by rw [hF]; exact ⟨_, rfl, g27, ⟨h, rfl⟩, rfl⟩)
    · replace h := h.2 q29
      refine J_iconst C dX9_faults_18 ?_
      exact J_iret C (Nat.zero_le _) (Nat.zero_le _) dX9_faults_19 (by rw [hF]; exact ⟨_, rfl, (rgN (-1) (by decide)), ⟨h, rfl⟩, rfl⟩)
set_option maxHeartbeats 4000000 in
set_option maxRecDepth 100000 in
theorem ct_X9_told {l : Launch} {E : ET} (hs : eS E = true) {s : Sg} {x1 : Int} (g1 : rgI x1) {Q : Int → Prop} (h : wp_X9_told x1 s Q) : MetE l E yX9_told cX9_told 2 (some .int) rm_X9_told s [.ref (adE E 0), .int (jI x1)] (qI (fun r t => Q r ∧ t = s) (gN s)) := by
  refine MetJ (by decide +kernel) (Nat.le_of_ble_eq_true rfl) ?_
  intro F hl C hF
  subst hl
  show JJ F E 0 0 s 0 [(0, .ref (adE E 0)), (1, .int (jI x1))] []
  have j21 : ∀ (x1 : Int), wj_X9_told_21   x1 s Q → rgI x1 → JJ F E 0 0 s 21 [(0, .ref (adE E 0)), (1, .int (jI x1))] [] := by
    intro x1 h g1
    refine J_iload_n C dX9_told_21 rfl 1 rfl ?_
    have q21 : (x1 < 5 ∨ 11 < x1) ∨ x1 = 5 ∨ x1 = 6 ∨ x1 = 7 ∨ x1 = 8 ∨ x1 = 9 ∨ x1 = 10 ∨ x1 = 11 := by omega
    rcases q21 with q21 | q21 | q21 | q21 | q21 | q21 | q21 | q21
    · replace h := h.2.2.2.2.2.2.2 q21
      refine J_tswOut C g1 (tgt := 132) dX9_told_22 q21 (by decide) ?_
      refine J_iconst C dX9_told_132 ?_
      exact J_iret C (Nat.zero_le _) (Nat.zero_le _) dX9_told_133 (by rw [hF]; exact ⟨_, rfl, (rgN (-1) (by decide)), ⟨h, rfl⟩, rfl⟩)
    · replace h := h.1 q21
      refine J_tswIn C q21 (rgN 5 (by decide)) (tgt := 64) (off := 42) dX9_told_22 (by decide) (by decide) rfl (by decide) ?_
      refine J_aload_n C dX9_told_64 rfl 0 rfl ?_
      refine gf_X9_now C hs wf_X9_23 dX9_told_65 ?_
      refine gf_X5_cut C hs kc4 wf_X9_45 dX9_told_68 ?_
      refine J_V C (ct_X0_size hs (kd5_cut kc4) h) ck_X0_size wm_X9_49 win_X0_size wsel_X0_size (dmC hs (kd5_cut kc4) (by decide)) (clE_k E s (kd5_cut kc4)) rfl ⟨rfl, rfl⟩ (by decide) (by decide) (As := []) (rest := []) rfl rfl (Nat.le_of_ble_eq_true rfl) dX9_told_71 (J_pI (fun v22 g24 h => ?_))
      exact J_iret C (Nat.zero_le _) (Nat.zero_le _) dX9_told_74 (by rw [hF]; exact ⟨_, rfl, g24, ⟨h, rfl⟩, rfl⟩)
    · replace h := h.2.1 q21
      refine J_tswIn C q21 (rgN 6 (by decide)) (tgt := 75) (off := 53) dX9_told_22 (by decide) (by decide) rfl (by decide) ?_
      refine J_aload_n C dX9_told_75 rfl 0 rfl ?_
      refine gf_X9_now C hs wf_X9_23 dX9_told_76 ?_
      refine gf_X5_cut C hs kc4 wf_X9_45 dX9_told_79 ?_
      refine J_V C (ct_X0_frames hs (kd5_cut kc4) h) ck_X0_frames wm_X9_55 win_X0_frames wsel_X0_frames (dmC hs (kd5_cut kc4) (by decide)) (clE_k E s (kd5_cut kc4)) rfl ⟨rfl, rfl⟩ (by decide) (by decide) (As := []) (rest := []) rfl rfl (Nat.le_of_ble_eq_true rfl) dX9_told_82 (J_pI (fun v26 g28 h => ?_))
      exact J_iret C (Nat.zero_le _) (Nat.zero_le _) dX9_told_85 (by rw [hF]; exact ⟨_, rfl, g28, ⟨h, rfl⟩, rfl⟩)
    · replace h := h.2.2.1 q21
      refine J_tswIn C q21 (rgN 7 (by decide)) (tgt := 86) (off := 64) dX9_told_22 (by decide) (by decide) rfl (by decide) ?_
      refine J_aload_n C dX9_told_86 rfl 0 rfl ?_
      refine gf_X9_now C hs wf_X9_23 dX9_told_87 ?_
      refine gf_X5_shots C hs kc4 wf_X9_84 dX9_told_90 ?_
      refine J_V C (ct_X4_size hs (kd5_shots kc4) h) ck_X4_size wm_X9_91 win_X4_size wsel_X4_size (dmC hs (kd5_shots kc4) (by decide)) (clE_k E s (kd5_shots kc4)) rfl ⟨rfl, rfl⟩ (by decide) (by decide) (As := []) (rest := []) rfl rfl (Nat.le_of_ble_eq_true rfl) dX9_told_93 (J_pI (fun v30 g32 h => ?_))
      exact J_iret C (Nat.zero_le _) (Nat.zero_le _) dX9_told_96 (by rw [hF]; exact ⟨_, rfl, g32, ⟨h, rfl⟩, rfl⟩)
    · replace h := h.2.2.2.1 q21
      refine J_tswIn C q21 (rgN 8 (by decide)) (tgt := 97) (off := 75) dX9_told_22 (by decide) (by decide) rfl (by decide) ?_
      refine J_aload_n C dX9_told_97 rfl 0 rfl ?_
      refine gf_X9_now C hs wf_X9_23 dX9_told_98 ?_
      refine gf_X5_track C hs kc4 wf_X9_114 dX9_told_101 ?_
      refine J_V C (ct_X7_size hs (kd5_track kc4) h) ck_X7_size wm_X9_132 win_X7_size wsel_X7_size (dmC hs (kd5_track kc4) (by decide)) (clE_k E s (kd5_track kc4)) rfl ⟨rfl, rfl⟩ (by decide) (by decide) (As := []) (rest := []) rfl rfl (Nat.le_of_ble_eq_true rfl) dX9_told_104 (J_pI (fun v34 g36 h => ?_))
      exact J_iret C (Nat.zero_le _) (Nat.zero_le _) dX9_told_107 (by rw [hF]; exact ⟨_, rfl, g36, ⟨h, rfl⟩, rfl⟩)
    · replace h := h.2.2.2.2.1 q21
      refine J_tswIn C q21 (rgN 9 (by decide)) (tgt := 108) (off := 86) dX9_told_22 (by decide) (by decide) rfl (by decide) ?_
      refine J_aload_n C dX9_told_108 rfl 0 rfl ?_
      refine gf_X9_now C hs wf_X9_23 dX9_told_109 ?_
      refine gf_X5_track C hs kc4 wf_X9_114 dX9_told_112 ?_
      refine J_V C (ct_X7_countPairs hs (kd5_track kc4) h) ck_X7_countPairs wm_X9_233 win_X7_countPairs wsel_X7_countPairs (dmC hs (kd5_track kc4) (by decide)) (clE_k E s (kd5_track kc4)) rfl ⟨rfl, rfl⟩ (by decide) (by decide) (As := []) (rest := []) rfl rfl (Nat.le_of_ble_eq_true rfl) dX9_told_115 (J_pI (fun v38 g40 h => ?_))
      exact J_iret C (Nat.zero_le _) (Nat.zero_le _) dX9_told_118 (by rw [hF]; exact ⟨_, rfl, g40, ⟨h, rfl⟩, rfl⟩)
    · replace h := h.2.2.2.2.2.1 q21
      refine J_tswIn C q21 (rgN 10 (by decide)) (tgt := 119) (off := 97) dX9_told_22 (by decide) (by decide) rfl (by decide) ?_
      refine J_aload_n C dX9_told_119 rfl 0 rfl ?_
      refine gf_X9_typedBytes C hs wf_X9_106 dX9_told_120 (fun g42 => ?_)
      exact J_iret C (Nat.zero_le _) (Nat.zero_le _) dX9_told_123 (by rw [hF]; exact ⟨_, rfl, g42, ⟨h, rfl⟩, rfl⟩)
    · replace h := h.2.2.2.2.2.2.1 q21
      refine J_tswIn C q21 (rgN 11 (by decide)) (tgt := 124) (off := 102) dX9_told_22 (by decide) (by decide) rfl (by decide) ?_
      refine J_aload_n C dX9_told_124 rfl 0 rfl ?_
      refine gf_X9_history C hs wf_X9_37 dX9_told_125 ?_
      refine J_V C (ct_X1_size hs h) ck_X1_size wm_X9_236 win_X1_size wsel_X1_size (dmC hs kc61 (by decide)) (clE_k E s kc61) rfl ⟨rfl, rfl⟩ (by decide) (by decide) (As := []) (rest := []) rfl rfl (Nat.le_of_ble_eq_true rfl) dX9_told_128 (J_pI (fun v43 g45 h => ?_))
      exact J_iret C (Nat.zero_le _) (Nat.zero_le _) dX9_told_131 (by rw [hF]; exact ⟨_, rfl, g45, ⟨h, rfl⟩, rfl⟩)
  refine J_iload_n C dX9_told_0 rfl 1 rfl ?_
  refine J_if_lt C g1 (tgt := 21) dX9_told_1 (by decide) (fun q52 => ?_) (fun q52 => ?_)
  · replace h := h.1 q52
    exact J_sub [0, 1] rfl (j21 _ h g1)
  · replace h := h.2 q52
    refine J_iload_n C dX9_told_4 rfl 1 rfl ?_
    refine J_iconst C dX9_told_5 ?_
    refine J_icmp_gt C g1 (rgN 4 (by decide)) (tgt := 21) dX9_told_6 (by decide) (fun q51 => ?_) (fun q51 => ?_)
    · replace h := h.1 q51
      exact J_sub [0, 1] rfl (j21 _ h g1)
    · replace h := h.2 q51
      refine J_aload_n C dX9_told_9 rfl 0 rfl ?_
      refine gf_X9_now C hs wf_X9_23 dX9_told_10 ?_
      refine gf_X5_settings C hs kc4 wf_X9_180 dX9_told_13 ?_
      refine J_iload_n C dX9_told_16 rfl 1 rfl ?_
      refine J_V C (ct_X3_at hs (kd5_settings kc4) g1 h) ck_X3_at wm_X9_184 win_X3_at wsel_X3_at (dmC hs (kd5_settings kc4) (by decide)) (clE_k E s (kd5_settings kc4)) rfl ⟨rfl, rfl⟩ (by decide) (by decide) (As := [.int (jI x1)]) (rest := []) rfl rfl (Nat.le_of_ble_eq_true rfl) dX9_told_17 (J_pI (fun v47 g49 h => ?_))
      exact J_iret C (Nat.zero_le _) (Nat.zero_le _) dX9_told_20 (by rw [hF]; exact ⟨_, rfl, g49, ⟨h, rfl⟩, rfl⟩)
set_option maxHeartbeats 4000000 in
set_option maxRecDepth 100000 in
theorem ct_X9_undo {l : Launch} {E : ET} (hs : eS E = true) {s : Sg} {Q : Int → Sg → Prop} (h : wp_X9_undo s Q) : MetE l E yX9_undo cX9_undo 1 (some .int) rm_X9_undo s [.ref (adE E 0)] (qI Q (gN s)) := by
  refine MetJ (by decide +kernel) (Nat.le_of_ble_eq_true rfl) ?_
  intro F hl C hF
  subst hl
  show JJ F E 0 0 s 0 [(0, .ref (adE E 0))] []
  refine J_aload_n C dX9_undo_0 rfl 0 rfl ?_
  refine gf_X9_history C hs wf_X9_37 dX9_undo_1 ?_
  refine J_V C (ct_X1_size hs h) ck_X1_size wm_X9_236 win_X1_size wsel_X1_size (dmC hs kc61 (by decide)) (clE_k E s kc61) rfl ⟨rfl, rfl⟩ (by decide) (by decide) (As := []) (rest := []) rfl rfl (Nat.le_of_ble_eq_true rfl) dX9_undo_4 (J_pI (fun v21 g23 h => ?_))
  refine J_if_ne C g23 (tgt := 13) dX9_undo_7 (by decide) (fun q34 => ?_) (fun q34 => ?_)
  · replace h := h.2 q34
    refine J_aload_n C dX9_undo_13 rfl 0 rfl ?_
    refine gf_X9_history C hs wf_X9_37 dX9_undo_14 ?_
    refine J_aload_n C dX9_undo_17 rfl 0 rfl ?_
    refine gf_X9_now C hs wf_X9_23 dX9_undo_18 ?_
    refine J_V C (ct_X1_restore hs kc4 h) ck_X1_restore wm_X9_237 win_X1_restore wsel_X1_restore (dmC hs kc61 (by decide)) (clE_k E s kc61) rfl ⟨rfl, rfl⟩ (by decide) (by decide) (As := [.ref (adE E 4)]) (rest := []) rfl rfl (Nat.le_of_ble_eq_true rfl) dX9_undo_21 (J_kV (fun s26 h n28 => ?_))
    have n29 : gN s26 = gN s := n28
    refine J_aload_n C dX9_undo_24 rfl 0 rfl ?_
    refine gf_X9_history C hs wf_X9_37 dX9_undo_25 ?_
    refine J_V C (ct_X1_size hs h) ck_X1_size wm_X9_236 win_X1_size wsel_X1_size (dmC hs kc61 (by decide)) (clE_k E s26 kc61) rfl ⟨rfl, rfl⟩ (by decide) (by decide) (As := []) (rest := []) rfl rfl (Nat.le_of_ble_eq_true rfl) dX9_undo_28 (J_pI (fun v30 g32 h => ?_))
    exact J_iret C (Nat.zero_le _) (Nat.zero_le _) dX9_undo_31 (by rw [hF]; exact ⟨_, rfl, g32, h, n29⟩)
  · replace h := h.1 q34
    refine J_bipush C dX9_undo_10 (by decide) ?_
    exact J_iret C (Nat.zero_le _) (Nat.zero_le _) dX9_undo_12 (by rw [hF]; exact ⟨_, rfl, (rgN (-2) (by decide)), h, rfl⟩)
set_option maxHeartbeats 4000000 in
set_option maxRecDepth 100000 in
theorem ct_X9_hashSubtitle {l : Launch} {E : ET} (hs : eS E = true) {s : Sg} {h1 : Int} {x3 : Int} (g3 : rgI x3) {Q : Int → Sg → Prop} (h : wp_X9_hashSubtitle h1 x3 s Q) : MetE l E yX9_hashSubtitle cX9_hashSubtitle 10 (some .long) rm_X9_hashSubtitle s [.ref (adE E 0), .long (jL h1), .int (jI x3)] (qL Q (gN s)) := by
  refine MetJ (by decide +kernel) (Nat.le_of_ble_eq_true rfl) ?_
  intro F hl C hF
  subst hl
  show JJ F E 0 0 s 0 [(0, .ref (adE E 0)), (1, .long (jL h1)), (3, .int (jI x3))] []
  refine J_lload_n C dX9_hashSubtitle_0 rfl 1 rfl ?_
  refine J_lstore C dX9_hashSubtitle_1 (by decide) (lv' := [(4, .long (jL h1)), (0, .ref (adE E 0)), (1, .long (jL h1)), (3, .int (jI x3))]) rfl ?_
  refine J_iconst C dX9_hashSubtitle_3 ?_
  refine J_istore C dX9_hashSubtitle_4 (by decide) (lv' := [(6, .int (jI 0)), (4, .long (jL h1)), (0, .ref (adE E 0)), (1, .long (jL h1)), (3, .int (jI x3))]) rfl ?_
  replace h := h (fun (h4_6 : Int) (x6_6 : Int) => rgI x6_6 → JJ F E 0 0 s 6 [(0, .ref (adE E 0)), (3, .int (jI x3)), (4, .long (jL h4_6)), (6, .int (jI x6_6))] []) (by
    intro h4_6 x6_6 h g6_6
    refine J_iload C dX9_hashSubtitle_6 3 rfl ?_
    refine J_bipush C dX9_hashSubtitle_8 (by decide) ?_
    refine J_icmp_gt C g6_6 (rgN 6 (by decide)) (tgt := 36) dX9_hashSubtitle_10 (by decide) (fun q58 => ?_) (fun q58 => ?_)
    · replace h := h.1 q58
      refine J_ldc2 C dX9_hashSubtitle_36 wc_X9_242 ?_
      refine J_lload C dX9_hashSubtitle_39 2 rfl ?_
      refine J_lmul C dX9_hashSubtitle_41 ?_
      refine J_aload_n C dX9_hashSubtitle_42 rfl 0 rfl ?_
      refine J_iload_n C dX9_hashSubtitle_43 rfl 1 rfl ?_
      refine J_V C (ct_X9_stretches hs g3 h) ck_X9_stretches wm_X9_266 win_X9_stretches wsel_X9_stretches (dmC hs kc0 (by decide)) (clE_k E s kc0) rfl ⟨rfl, rfl⟩ (by decide) (by decide) (As := [.int (jI x3)]) (rest := [.long (jL (31 * h4_6))]) rfl rfl (Nat.le_of_ble_eq_true rfl) dX9_hashSubtitle_44 (J_kI (fun v21 s22 g23 h n24 => ?_))
      have n25 : gN s22 = gN s := n24
      refine J_i2l C g23 dX9_hashSubtitle_47 ?_
      refine J_ladd C dX9_hashSubtitle_48 ?_
      obtain ⟨h4_49, e26⟩ : ∃ v : Int, v = ((31 * h4_6) + v21) := ⟨_, rfl⟩
      replace h := h h4_49 e26
      refine J_topL e26 ?_
      refine J_lstore C dX9_hashSubtitle_49 (by decide) (lv' := [(4, .long (jL h4_49)), (0, .ref (adE E 0)), (3, .int (jI x3)), (6, .int (jI x6_6))]) rfl ?_
      refine J_aload_n C dX9_hashSubtitle_51 rfl 1 rfl ?_
      refine J_iload_n C dX9_hashSubtitle_52 rfl 2 rfl ?_
      refine J_iconst C dX9_hashSubtitle_53 ?_
      refine J_V C (ct_X9_subtitle hs g3 (rgN 2 (by decide)) h) ck_X9_subtitle wm_X9_263 win_X9_subtitle wsel_X9_subtitle (dmC hs kc0 (by decide)) (clE_k E s22 kc0) rfl ⟨rfl, rfl⟩ (by decide) (by decide) (As := [.int (jI x3), .int (jI 2)]) (rest := []) rfl rfl (Nat.le_of_ble_eq_true rfl) dX9_hashSubtitle_54 (J_pI (fun v27 g29 h => ?_))
      refine J_istore C dX9_hashSubtitle_57 (by decide) (lv' := [(6, .int (jI v27)), (4, .long (jL h4_49)), (0, .ref (adE E 0)), (3, .int (jI x3))]) rfl ?_
      refine J_iconst C dX9_hashSubtitle_59 ?_
      refine J_istore C dX9_hashSubtitle_60 (by decide) (lv' := [(7, .int (jI 0)), (6, .int (jI v27)), (4, .long (jL h4_49)), (0, .ref (adE E 0)), (3, .int (jI x3))]) rfl ?_
      replace h := h (fun (h4_62 : Int) (x7_62 : Int) => rgI x7_62 → JJ F E 0 0 s22 62 [(0, .ref (adE E 0)), (3, .int (jI x3)), (4, .long (jL h4_62)), (6, .int (jI v27)), (7, .int (jI x7_62))] []) (by
        intro h4_62 x7_62 h g7_62
        refine J_iload C dX9_hashSubtitle_62 4 rfl ?_
        refine J_iload C dX9_hashSubtitle_64 3 rfl ?_
        refine J_icmp_ge C g7_62 g29 (tgt := 157) dX9_hashSubtitle_66 (by decide) (fun q51 => ?_) (fun q51 => ?_)
        · replace h := h.1 q51
          refine J_lload C dX9_hashSubtitle_157 2 rfl ?_
          exact J_lret C (Nat.zero_le _) (Nat.zero_le _) dX9_hashSubtitle_159 (by rw [hF]; exact ⟨_, rfl, h, n25⟩)
        · replace h := h.2 q51
          refine J_iconst C dX9_hashSubtitle_69 ?_
          refine J_istore C dX9_hashSubtitle_70 (by decide) (lv' := [(8, .int (jI 0)), (0, .ref (adE E 0)), (3, .int (jI x3)), (4, .long (jL h4_62)), (6, .int (jI v27)), (7, .int (jI x7_62))]) rfl ?_
          replace h := h (fun (h4_72 : Int) (x8_72 : Int) => rgI x8_72 → JJ F E 0 0 s22 72 [(0, .ref (adE E 0)), (3, .int (jI x3)), (4, .long (jL h4_72)), (6, .int (jI v27)), (7, .int (jI x7_62)), (8, .int (jI x8_72))] []) (by
            intro h4_72 x8_72 h g8_72
            refine J_iload C dX9_hashSubtitle_72 5 rfl ?_
            refine J_iconst C dX9_hashSubtitle_74 ?_
            refine J_icmp_gt C g8_72 (rgN 3 (by decide)) (tgt := 103) dX9_hashSubtitle_75 (by decide) (fun q50 => ?_) (fun q50 => ?_)
            · replace h := h.1 q50
              refine J_aload_n C dX9_hashSubtitle_103 rfl 0 rfl ?_
              refine J_iload_n C dX9_hashSubtitle_104 rfl 1 rfl ?_
              refine J_iload C dX9_hashSubtitle_105 4 rfl ?_
              refine J_iconst C dX9_hashSubtitle_107 ?_
              refine J_V C (ct_X9_part hs g3 g7_62 (rgN 1 (by decide)) h) ck_X9_part wm_X9_269 win_X9_part wsel_X9_part (dmC hs kc0 (by decide)) (clE_k E s22 kc0) rfl ⟨rfl, rfl⟩ (by decide) (by decide) (As := [.int (jI x3), .int (jI x7_62), .int (jI 1)]) (rest := []) rfl rfl (Nat.le_of_ble_eq_true rfl) dX9_hashSubtitle_108 (J_pI (fun v31 g33 h => ?_))
              refine J_istore C dX9_hashSubtitle_111 (by decide) (lv' := [(8, .int (jI v31)), (0, .ref (adE E 0)), (3, .int (jI x3)), (4, .long (jL h4_72)), (6, .int (jI v27)), (7, .int (jI x7_62))]) rfl ?_
              refine J_iconst C dX9_hashSubtitle_113 ?_
              refine J_istore C dX9_hashSubtitle_114 (by decide) (lv' := [(9, .int (jI 0)), (8, .int (jI v31)), (0, .ref (adE E 0)), (3, .int (jI x3)), (4, .long (jL h4_72)), (6, .int (jI v27)), (7, .int (jI x7_62))]) rfl ?_
              replace h := h (fun (h4_116 : Int) (x9_116 : Int) => rgI x9_116 → JJ F E 0 0 s22 116 [(0, .ref (adE E 0)), (3, .int (jI x3)), (4, .long (jL h4_116)), (6, .int (jI v27)), (7, .int (jI x7_62)), (8, .int (jI v31)), (9, .int (jI x9_116))] []) (by
                intro h4_116 x9_116 h g9_116
                refine J_iload C dX9_hashSubtitle_116 6 rfl ?_
                refine J_iload C dX9_hashSubtitle_118 5 rfl ?_
                refine J_icmp_ge C g9_116 g33 (tgt := 151) dX9_hashSubtitle_120 (by decide) (fun q43 => ?_) (fun q43 => ?_)
                · replace h := h.1 q43
                  refine J_iinc C dX9_hashSubtitle_151 4 rfl (by decide) (lv' := [(7, .int (jI (x7_62 + 1))), (0, .ref (adE E 0)), (3, .int (jI x3)), (4, .long (jL h4_116)), (6, .int (jI v27)), (8, .int (jI v31)), (9, .int (jI x9_116))]) rfl ?_
                  refine J_goto C (tgt := 62) dX9_hashSubtitle_154 (by decide) ?_
                  obtain ⟨g35, h⟩ := h
                  exact J_sub [1, 2, 3, 4, 0] rfl (h g35)
                · replace h := h.2 q43
                  refine J_ldc2 C dX9_hashSubtitle_123 wc_X9_242 ?_
                  refine J_lload C dX9_hashSubtitle_126 2 rfl ?_
                  refine J_lmul C dX9_hashSubtitle_128 ?_
                  refine J_aload_n C dX9_hashSubtitle_129 rfl 0 rfl ?_
                  refine J_iload_n C dX9_hashSubtitle_130 rfl 1 rfl ?_
                  refine J_iload C dX9_hashSubtitle_131 4 rfl ?_
                  refine J_bipush C dX9_hashSubtitle_133 (by decide) ?_
                  refine J_iload C dX9_hashSubtitle_135 6 rfl ?_
                  refine J_iadd C dX9_hashSubtitle_137 ?_
                  obtain ⟨g36, h⟩ := h
                  refine J_V C (ct_X9_part hs g3 g7_62 g36 h) ck_X9_part wm_X9_269 win_X9_part wsel_X9_part (dmC hs kc0 (by decide)) (clE_k E s22 kc0) rfl ⟨rfl, rfl⟩ (by decide) (by decide) (As := [.int (jI x3), .int (jI x7_62), .int (jI (10 + x9_116))]) (rest := [.long (jL (31 * h4_116))]) rfl rfl (Nat.le_of_ble_eq_true rfl) dX9_hashSubtitle_138 (J_pI (fun v37 g39 h => ?_))
                  refine J_i2l C g39 dX9_hashSubtitle_141 ?_
                  refine J_ladd C dX9_hashSubtitle_142 ?_
                  obtain ⟨h4_143, e41⟩ : ∃ v : Int, v = ((31 * h4_116) + v37) := ⟨_, rfl⟩
                  replace h := h h4_143 e41
                  refine J_topL e41 ?_
                  refine J_lstore C dX9_hashSubtitle_143 (by decide) (lv' := [(4, .long (jL h4_143)), (0, .ref (adE E 0)), (3, .int (jI x3)), (6, .int (jI v27)), (7, .int (jI x7_62)), (8, .int (jI v31)), (9, .int (jI x9_116))]) rfl ?_
                  refine J_iinc C dX9_hashSubtitle_145 6 rfl (by decide) (lv' := [(9, .int (jI (x9_116 + 1))), (4, .long (jL h4_143)), (0, .ref (adE E 0)), (3, .int (jI x3)), (6, .int (jI v27)), (7, .int (jI x7_62)), (8, .int (jI v31))]) rfl ?_
                  refine J_goto C (tgt := 116) dX9_hashSubtitle_148 (by decide) ?_
                  obtain ⟨g42, h⟩ := h
                  exact J_sub [2, 3, 1, 4, 5, 6, 0] rfl (h g42)
              )
              exact J_sub [2, 3, 4, 5, 6, 1, 0] rfl (h (rgN 0 (by decide)))
            · replace h := h.2 q50
              refine J_ldc2 C dX9_hashSubtitle_78 wc_X9_242 ?_
              refine J_lload C dX9_hashSubtitle_81 2 rfl ?_
              refine J_lmul C dX9_hashSubtitle_83 ?_
              refine J_aload_n C dX9_hashSubtitle_84 rfl 0 rfl ?_
              refine J_iload_n C dX9_hashSubtitle_85 rfl 1 rfl ?_
              refine J_iload C dX9_hashSubtitle_86 4 rfl ?_
              refine J_iload C dX9_hashSubtitle_88 5 rfl ?_
              refine J_V C (ct_X9_part hs g3 g7_62 g8_72 h) ck_X9_part wm_X9_269 win_X9_part wsel_X9_part (dmC hs kc0 (by decide)) (clE_k E s22 kc0) rfl ⟨rfl, rfl⟩ (by decide) (by decide) (As := [.int (jI x3), .int (jI x7_62), .int (jI x8_72)]) (rest := [.long (jL (31 * h4_72))]) rfl rfl (Nat.le_of_ble_eq_true rfl) dX9_hashSubtitle_90 (J_pI (fun v44 g46 h => ?_))
              refine J_i2l C g46 dX9_hashSubtitle_93 ?_
              refine J_ladd C dX9_hashSubtitle_94 ?_
              obtain ⟨h4_95, e48⟩ : ∃ v : Int, v = ((31 * h4_72) + v44) := ⟨_, rfl⟩
              replace h := h h4_95 e48
              refine J_topL e48 ?_
              refine J_lstore C dX9_hashSubtitle_95 (by decide) (lv' := [(4, .long (jL h4_95)), (0, .ref (adE E 0)), (3, .int (jI x3)), (6, .int (jI v27)), (7, .int (jI x7_62)), (8, .int (jI x8_72))]) rfl ?_
              refine J_iinc C dX9_hashSubtitle_97 5 rfl (by decide) (lv' := [(8, .int (jI (x8_72 + 1))), (4, .long (jL h4_95)), (0, .ref (adE E 0)), (3, .int (jI x3)), (6, .int (jI v27)), (7, .int (jI x7_62))]) rfl ?_
              refine J_goto C (tgt := 72) dX9_hashSubtitle_100 (by decide) ?_
              obtain ⟨g49, h⟩ := h
              exact J_sub [2, 3, 1, 4, 5, 0] rfl (h g49)
          )
          exact J_sub [1, 2, 3, 4, 5, 0] rfl (h (rgN 0 (by decide)))
      )
      exact J_sub [3, 4, 2, 1, 0] rfl (h (rgN 0 (by decide)))
    · replace h := h.2 q58
      refine J_ldc2 C dX9_hashSubtitle_13 wc_X9_242 ?_
      refine J_lload C dX9_hashSubtitle_16 2 rfl ?_
      refine J_lmul C dX9_hashSubtitle_18 ?_
      refine J_aload_n C dX9_hashSubtitle_19 rfl 0 rfl ?_
      refine J_iload_n C dX9_hashSubtitle_20 rfl 1 rfl ?_
      refine J_iload C dX9_hashSubtitle_21 3 rfl ?_
      refine J_V C (ct_X9_subtitle hs g3 g6_6 h) ck_X9_subtitle wm_X9_263 win_X9_subtitle wsel_X9_subtitle (dmC hs kc0 (by decide)) (clE_k E s kc0) rfl ⟨rfl, rfl⟩ (by decide) (by decide) (As := [.int (jI x3), .int (jI x6_6)]) (rest := [.long (jL (31 * h4_6))]) rfl rfl (Nat.le_of_ble_eq_true rfl) dX9_hashSubtitle_23 (J_pI (fun v52 g54 h => ?_))
      refine J_i2l C g54 dX9_hashSubtitle_26 ?_
      refine J_ladd C dX9_hashSubtitle_27 ?_
      obtain ⟨h4_28, e56⟩ : ∃ v : Int, v = ((31 * h4_6) + v52) := ⟨_, rfl⟩
      replace h := h h4_28 e56
      refine J_topL e56 ?_
      refine J_lstore C dX9_hashSubtitle_28 (by decide) (lv' := [(4, .long (jL h4_28)), (0, .ref (adE E 0)), (3, .int (jI x3)), (6, .int (jI x6_6))]) rfl ?_
      refine J_iinc C dX9_hashSubtitle_30 3 rfl (by decide) (lv' := [(6, .int (jI (x6_6 + 1))), (4, .long (jL h4_28)), (0, .ref (adE E 0)), (3, .int (jI x3))]) rfl ?_
      refine J_goto C (tgt := 6) dX9_hashSubtitle_33 (by decide) ?_
      obtain ⟨g57, h⟩ := h
      exact J_sub [2, 3, 1, 0] rfl (h g57)
  )
  exact J_sub [2, 4, 1, 0] rfl (h (rgN 0 (by decide)))
set_option maxHeartbeats 4000000 in
set_option maxRecDepth 100000 in
theorem ct_X9_digest {l : Launch} {E : ET} (hs : eS E = true) {s : Sg} {Q : Int → Sg → Prop} (h : wp_X9_digest s Q) : MetE l E yX9_digest cX9_digest 5 (some .long) rm_X9_digest s [.ref (adE E 0)] (qL Q (gN s)) := by
  refine MetJ (by decide +kernel) (Nat.le_of_ble_eq_true rfl) ?_
  intro F hl C hF
  subst hl
  show JJ F E 0 0 s 0 [(0, .ref (adE E 0))] []
  refine J_ldc2 C dX9_digest_0 wc_X9_240 ?_
  refine J_lstore_n C dX9_digest_3 rfl (by decide) (lv' := [(1, .long (jL 18771)), (0, .ref (adE E 0))]) rfl ?_
  refine J_iconst C dX9_digest_4 ?_
  refine J_istore_n C dX9_digest_5 rfl (by decide) (lv' := [(3, .int (jI 0)), (1, .long (jL 18771)), (0, .ref (adE E 0))]) rfl ?_
  replace h := h (fun (h1_6 : Int) (x3_6 : Int) => rgI x3_6 → JJ F E 0 0 s 6 [(0, .ref (adE E 0)), (1, .long (jL h1_6)), (3, .int (jI x3_6))] []) (by
    intro h1_6 x3_6 h g3_6
    refine J_iload_n C dX9_digest_6 rfl 2 rfl ?_
    refine J_bipush C dX9_digest_7 (by decide) ?_
    refine J_icmp_gt C g3_6 (rgN 11 (by decide)) (tgt := 31) dX9_digest_9 (by decide) (fun q82 => ?_) (fun q82 => ?_)
    · replace h := h.1 q82
      refine J_iconst C dX9_digest_31 ?_
      refine J_istore_n C dX9_digest_32 rfl (by decide) (lv' := [(3, .int (jI 0)), (0, .ref (adE E 0)), (1, .long (jL h1_6))]) rfl ?_
      replace h := h (fun (h1_33 : Int) (x3_33 : Int) => rgI x3_33 → JJ F E 0 0 s 33 [(0, .ref (adE E 0)), (1, .long (jL h1_33)), (3, .int (jI x3_33))] []) (by
        intro h1_33 x3_33 h g3_33
        refine J_iload_n C dX9_digest_33 rfl 2 rfl ?_
        refine J_aload_n C dX9_digest_34 rfl 0 rfl ?_
        refine gf_X9_now C hs wf_X9_23 dX9_digest_35 ?_
        refine gf_X5_cut C hs kc4 wf_X9_45 dX9_digest_38 ?_
        refine J_V C (ct_X0_size hs (kd5_cut kc4) h) ck_X0_size wm_X9_49 win_X0_size wsel_X0_size (dmC hs (kd5_cut kc4) (by decide)) (clE_k E s (kd5_cut kc4)) rfl ⟨rfl, rfl⟩ (by decide) (by decide) (As := []) (rest := [.int (jI x3_33)]) rfl rfl (Nat.le_of_ble_eq_true rfl) dX9_digest_41 (J_pI (fun v21 g23 h => ?_))
        refine J_icmp_ge C g3_33 g23 (tgt := 83) dX9_digest_44 (by decide) (fun q75 => ?_) (fun q75 => ?_)
        · replace h := h.1 q75
          refine J_iconst C dX9_digest_83 ?_
          refine J_istore_n C dX9_digest_84 rfl (by decide) (lv' := [(3, .int (jI 0)), (0, .ref (adE E 0)), (1, .long (jL h1_33))]) rfl ?_
          replace h := h (fun (h1_85 : Int) (x3_85 : Int) => rgI x3_85 → JJ F E 0 0 s 85 [(0, .ref (adE E 0)), (1, .long (jL h1_85)), (3, .int (jI x3_85))] []) (by
            intro h1_85 x3_85 h g3_85
            refine J_iload_n C dX9_digest_85 rfl 2 rfl ?_
            refine J_aload_n C dX9_digest_86 rfl 0 rfl ?_
            refine gf_X9_now C hs wf_X9_23 dX9_digest_87 ?_
            refine gf_X5_shots C hs kc4 wf_X9_84 dX9_digest_90 ?_
            refine J_V C (ct_X4_size hs (kd5_shots kc4) h) ck_X4_size wm_X9_91 win_X4_size wsel_X4_size (dmC hs (kd5_shots kc4) (by decide)) (clE_k E s (kd5_shots kc4)) rfl ⟨rfl, rfl⟩ (by decide) (by decide) (As := []) (rest := [.int (jI x3_85)]) rfl rfl (Nat.le_of_ble_eq_true rfl) dX9_digest_93 (J_pI (fun v25 g27 h => ?_))
            refine J_icmp_ge C g3_85 g27 (tgt := 118) dX9_digest_96 (by decide) (fun q66 => ?_) (fun q66 => ?_)
            · replace h := h.1 q66
              refine J_iconst C dX9_digest_118 ?_
              refine J_istore_n C dX9_digest_119 rfl (by decide) (lv' := [(3, .int (jI 0)), (0, .ref (adE E 0)), (1, .long (jL h1_85))]) rfl ?_
              replace h := h (fun (h1_120 : Int) (x3_120 : Int) (sL120 : Sg) => rgI x3_120 → gN sL120 = gN s → JJ F E 0 0 sL120 120 [(0, .ref (adE E 0)), (1, .long (jL h1_120)), (3, .int (jI x3_120))] []) (by
                intro h1_120 x3_120 sL120 h g3_120 nL120
                refine J_iload_n C dX9_digest_120 rfl 2 rfl ?_
                refine J_aload_n C dX9_digest_121 rfl 0 rfl ?_
                refine gf_X9_now C hs wf_X9_23 dX9_digest_122 ?_
                refine gf_X5_track C hs kc4 wf_X9_114 dX9_digest_125 ?_
                refine J_V C (ct_X7_size hs (kd5_track kc4) h) ck_X7_size wm_X9_132 win_X7_size wsel_X7_size (dmC hs (kd5_track kc4) (by decide)) (clE_k E sL120 (kd5_track kc4)) rfl ⟨rfl, rfl⟩ (by decide) (by decide) (As := []) (rest := [.int (jI x3_120)]) rfl rfl (Nat.le_of_ble_eq_true rfl) dX9_digest_128 (J_pI (fun v29 g31 h => ?_))
                refine J_icmp_ge C g3_120 g31 (tgt := 147) dX9_digest_131 (by decide) (fun q59 => ?_) (fun q59 => ?_)
                · replace h := h.1 q59
                  refine J_ldc2 C dX9_digest_147 wc_X9_242 ?_
                  refine J_lload_n C dX9_digest_150 rfl 1 rfl ?_
                  refine J_lmul C dX9_digest_151 ?_
                  refine J_aload_n C dX9_digest_152 rfl 0 rfl ?_
                  refine J_iconst C dX9_digest_153 ?_
                  refine J_V C (ct_X9_faults hs (rgN 0 (by decide)) h) ck_X9_faults wm_X9_257 win_X9_faults wsel_X9_faults (dmC hs kc0 (by decide)) (clE_k E sL120 kc0) rfl ⟨rfl, rfl⟩ (by decide) (by decide) (As := [.int (jI 0)]) (rest := [.long (jL (31 * h1_120))]) rfl rfl (Nat.le_of_ble_eq_true rfl) dX9_digest_154 (J_pI (fun v33 g35 h => ?_))
                  refine J_i2l C g35 dX9_digest_157 ?_
                  refine J_ladd C dX9_digest_158 ?_
                  obtain ⟨h1_159, e37⟩ : ∃ v : Int, v = ((31 * h1_120) + v33) := ⟨_, rfl⟩
                  replace h := h h1_159 e37
                  refine J_topL e37 ?_
                  refine J_lstore_n C dX9_digest_159 rfl (by decide) (lv' := [(1, .long (jL h1_159)), (0, .ref (adE E 0)), (3, .int (jI x3_120))]) rfl ?_
                  refine J_iconst C dX9_digest_160 ?_
                  refine J_istore_n C dX9_digest_161 rfl (by decide) (lv' := [(3, .int (jI 1)), (1, .long (jL h1_159)), (0, .ref (adE E 0))]) rfl ?_
                  replace h := h (fun (h1_162 : Int) (x3_162 : Int) => rgI x3_162 → JJ F E 0 0 sL120 162 [(0, .ref (adE E 0)), (1, .long (jL h1_162)), (3, .int (jI x3_162))] []) (by
                    intro h1_162 x3_162 h g3_162
                    refine J_iload_n C dX9_digest_162 rfl 2 rfl ?_
                    refine J_bipush C dX9_digest_163 (by decide) ?_
                    refine J_icmp_gt C g3_162 (rgN 32 (by decide)) (tgt := 188) dX9_digest_165 (by decide) (fun q52 => ?_) (fun q52 => ?_)
                    · replace h := h.1 q52
                      refine J_iconst C dX9_digest_188 ?_
                      refine J_istore_n C dX9_digest_189 rfl (by decide) (lv' := [(3, .int (jI 0)), (0, .ref (adE E 0)), (1, .long (jL h1_162))]) rfl ?_
                      replace h := h (fun (h1_190 : Int) (x3_190 : Int) (sL190 : Sg) => rgI x3_190 → gN sL190 = gN s → JJ F E 0 0 sL190 190 [(0, .ref (adE E 0)), (1, .long (jL h1_190)), (3, .int (jI x3_190))] []) (by
                        intro h1_190 x3_190 sL190 h g3_190 nL190
                        refine J_iload_n C dX9_digest_190 rfl 2 rfl ?_
                        refine J_iconst C dX9_digest_191 ?_
                        refine J_icmp_gt C g3_190 (rgN 4 (by decide)) (tgt := 216) dX9_digest_192 (by decide) (fun q45 => ?_) (fun q45 => ?_)
                        · replace h := h.1 q45
                          refine J_lload_n C dX9_digest_216 rfl 1 rfl ?_
                          exact J_lret C (Nat.zero_le _) (Nat.zero_le _) dX9_digest_217 (by rw [hF]; exact ⟨_, rfl, h, nL190⟩)
                        · replace h := h.2 q45
                          refine J_ldc2 C dX9_digest_195 wc_X9_242 ?_
                          refine J_lload_n C dX9_digest_198 rfl 1 rfl ?_
                          refine J_lmul C dX9_digest_199 ?_
                          refine J_aload_n C dX9_digest_200 rfl 0 rfl ?_
                          refine J_bipush C dX9_digest_201 (by decide) ?_
                          refine J_iload_n C dX9_digest_203 rfl 2 rfl ?_
                          refine J_V C (ct_X9_ifConform hs (rgN 31 (by decide)) g3_190 h) ck_X9_ifConform wm_X9_260 win_X9_ifConform wsel_X9_ifConform (dmC hs kc0 (by decide)) (clE_k E sL190 kc0) rfl ⟨rfl, rfl⟩ (by decide) (by decide) (As := [.int (jI 31), .int (jI x3_190)]) (rest := [.long (jL (31 * h1_190))]) rfl rfl (Nat.le_of_ble_eq_true rfl) dX9_digest_204 (J_kI (fun v38 s39 g40 h n41 => ?_))
                          have n42 : gN s39 = gN s := n41.trans (nL190)
                          refine J_i2l C g40 dX9_digest_207 ?_
                          refine J_ladd C dX9_digest_208 ?_
                          obtain ⟨h1_209, e43⟩ : ∃ v : Int, v = ((31 * h1_190) + v38) := ⟨_, rfl⟩
                          replace h := h h1_209 e43
                          refine J_topL e43 ?_
                          refine J_lstore_n C dX9_digest_209 rfl (by decide) (lv' := [(1, .long (jL h1_209)), (0, .ref (adE E 0)), (3, .int (jI x3_190))]) rfl ?_
                          refine J_iinc C dX9_digest_210 2 rfl (by decide) (lv' := [(3, .int (jI (x3_190 + 1))), (1, .long (jL h1_209)), (0, .ref (adE E 0))]) rfl ?_
                          refine J_goto C (tgt := 190) dX9_digest_213 (by decide) ?_
                          obtain ⟨g44, h⟩ := h
                          exact J_sub [2, 1, 0] rfl (h g44 n42)
                      )
                      exact J_sub [1, 2, 0] rfl (h (rgN 0 (by decide)) nL120)
                    · replace h := h.2 q52
                      refine J_ldc2 C dX9_digest_168 wc_X9_242 ?_
                      refine J_lload_n C dX9_digest_171 rfl 1 rfl ?_
                      refine J_lmul C dX9_digest_172 ?_
                      refine J_aload_n C dX9_digest_173 rfl 0 rfl ?_
                      refine J_iload_n C dX9_digest_174 rfl 2 rfl ?_
                      refine J_V C (ct_X9_faults hs g3_162 h) ck_X9_faults wm_X9_257 win_X9_faults wsel_X9_faults (dmC hs kc0 (by decide)) (clE_k E sL120 kc0) rfl ⟨rfl, rfl⟩ (by decide) (by decide) (As := [.int (jI x3_162)]) (rest := [.long (jL (31 * h1_162))]) rfl rfl (Nat.le_of_ble_eq_true rfl) dX9_digest_175 (J_pI (fun v46 g48 h => ?_))
                      refine J_i2l C g48 dX9_digest_178 ?_
                      refine J_ladd C dX9_digest_179 ?_
                      obtain ⟨h1_180, e50⟩ : ∃ v : Int, v = ((31 * h1_162) + v46) := ⟨_, rfl⟩
                      replace h := h h1_180 e50
                      refine J_topL e50 ?_
                      refine J_lstore_n C dX9_digest_180 rfl (by decide) (lv' := [(1, .long (jL h1_180)), (0, .ref (adE E 0)), (3, .int (jI x3_162))]) rfl ?_
                      refine J_iload_n C dX9_digest_181 rfl 2 rfl ?_
                      refine J_iconst C dX9_digest_182 ?_
                      refine J_imul C dX9_digest_183 ?_
                      obtain ⟨x3_184, e51⟩ : ∃ v : Int, v = (x3_162 * 2) := ⟨_, rfl⟩
                      obtain ⟨g3_184, h⟩ := h x3_184 e51
                      refine J_top e51 ?_
                      refine J_istore_n C dX9_digest_184 rfl (by decide) (lv' := [(3, .int (jI x3_184)), (1, .long (jL h1_180)), (0, .ref (adE E 0))]) rfl ?_
                      refine J_goto C (tgt := 162) dX9_digest_185 (by decide) ?_
                      exact J_sub [2, 1, 0] rfl (h g3_184)
                  )
                  exact J_sub [2, 1, 0] rfl (h (rgN 1 (by decide)))
                · replace h := h.2 q59
                  refine J_aload_n C dX9_digest_134 rfl 0 rfl ?_
                  refine J_lload_n C dX9_digest_135 rfl 1 rfl ?_
                  refine J_iload_n C dX9_digest_136 rfl 2 rfl ?_
                  refine J_V C (ct_X9_hashSubtitle hs g3_120 h) ck_X9_hashSubtitle wm_X9_253 win_X9_hashSubtitle wsel_X9_hashSubtitle (dmC hs kc0 (by decide)) (clE_k E sL120 kc0) rfl ⟨rfl, rfl⟩ (by decide) (by decide) (As := [.long (jL h1_120), .int (jI x3_120)]) (rest := []) rfl rfl (Nat.le_of_ble_eq_true rfl) dX9_digest_137 (J_kL (fun v53 s54 h n56 => ?_))
                  have n57 : gN s54 = gN s := n56.trans (nL120)
                  refine J_lstore_n C dX9_digest_140 rfl (by decide) (lv' := [(1, .long (jL v53)), (0, .ref (adE E 0)), (3, .int (jI x3_120))]) rfl ?_
                  refine J_iinc C dX9_digest_141 2 rfl (by decide) (lv' := [(3, .int (jI (x3_120 + 1))), (1, .long (jL v53)), (0, .ref (adE E 0))]) rfl ?_
                  refine J_goto C (tgt := 120) dX9_digest_144 (by decide) ?_
                  obtain ⟨g58, h⟩ := h
                  exact J_sub [2, 1, 0] rfl (h g58 n57)
              )
              exact J_sub [1, 2, 0] rfl (h (rgN 0 (by decide)) rfl)
            · replace h := h.2 q66
              refine J_ldc2 C dX9_digest_99 wc_X9_242 ?_
              refine J_lload_n C dX9_digest_102 rfl 1 rfl ?_
              refine J_lmul C dX9_digest_103 ?_
              refine J_aload_n C dX9_digest_104 rfl 0 rfl ?_
              refine J_iload_n C dX9_digest_105 rfl 2 rfl ?_
              refine J_V C (ct_X9_shotAt hs g3_85 h) ck_X9_shotAt wm_X9_250 win_X9_shotAt wsel_X9_shotAt (dmC hs kc0 (by decide)) (clE_k E s kc0) rfl ⟨rfl, rfl⟩ (by decide) (by decide) (As := [.int (jI x3_85)]) (rest := [.long (jL (31 * h1_85))]) rfl rfl (Nat.le_of_ble_eq_true rfl) dX9_digest_106 (J_pI (fun v60 g62 h => ?_))
              refine J_i2l C g62 dX9_digest_109 ?_
              refine J_ladd C dX9_digest_110 ?_
              obtain ⟨h1_111, e64⟩ : ∃ v : Int, v = ((31 * h1_85) + v60) := ⟨_, rfl⟩
              replace h := h h1_111 e64
              refine J_topL e64 ?_
              refine J_lstore_n C dX9_digest_111 rfl (by decide) (lv' := [(1, .long (jL h1_111)), (0, .ref (adE E 0)), (3, .int (jI x3_85))]) rfl ?_
              refine J_iinc C dX9_digest_112 2 rfl (by decide) (lv' := [(3, .int (jI (x3_85 + 1))), (1, .long (jL h1_111)), (0, .ref (adE E 0))]) rfl ?_
              refine J_goto C (tgt := 85) dX9_digest_115 (by decide) ?_
              obtain ⟨g65, h⟩ := h
              exact J_sub [2, 1, 0] rfl (h g65)
          )
          exact J_sub [1, 2, 0] rfl (h (rgN 0 (by decide)))
        · replace h := h.2 q75
          refine J_iconst C dX9_digest_47 ?_
          refine J_istore C dX9_digest_48 (by decide) (lv' := [(4, .int (jI 0)), (0, .ref (adE E 0)), (1, .long (jL h1_33)), (3, .int (jI x3_33))]) rfl ?_
          replace h := h (fun (h1_50 : Int) (x4_50 : Int) => rgI x4_50 → JJ F E 0 0 s 50 [(0, .ref (adE E 0)), (1, .long (jL h1_50)), (3, .int (jI x3_33)), (4, .int (jI x4_50))] []) (by
            intro h1_50 x4_50 h g4_50
            refine J_iload C dX9_digest_50 3 rfl ?_
            refine J_iconst C dX9_digest_52 ?_
            refine J_icmp_gt C g4_50 (rgN 2 (by decide)) (tgt := 77) dX9_digest_53 (by decide) (fun q74 => ?_) (fun q74 => ?_)
            · replace h := h.1 q74
              refine J_iinc C dX9_digest_77 2 rfl (by decide) (lv' := [(3, .int (jI (x3_33 + 1))), (0, .ref (adE E 0)), (1, .long (jL h1_50)), (4, .int (jI x4_50))]) rfl ?_
              refine J_goto C (tgt := 33) dX9_digest_80 (by decide) ?_
              obtain ⟨g67, h⟩ := h
              exact J_sub [1, 2, 0] rfl (h g67)
            · replace h := h.2 q74
              refine J_ldc2 C dX9_digest_56 wc_X9_242 ?_
              refine J_lload_n C dX9_digest_59 rfl 1 rfl ?_
              refine J_lmul C dX9_digest_60 ?_
              refine J_aload_n C dX9_digest_61 rfl 0 rfl ?_
              refine J_iload_n C dX9_digest_62 rfl 2 rfl ?_
              refine J_iload C dX9_digest_63 3 rfl ?_
              refine J_V C (ct_X9_pieceAt hs g3_33 g4_50 h) ck_X9_pieceAt wm_X9_247 win_X9_pieceAt wsel_X9_pieceAt (dmC hs kc0 (by decide)) (clE_k E s kc0) rfl ⟨rfl, rfl⟩ (by decide) (by decide) (As := [.int (jI x3_33), .int (jI x4_50)]) (rest := [.long (jL (31 * h1_50))]) rfl rfl (Nat.le_of_ble_eq_true rfl) dX9_digest_65 (J_pI (fun v68 g70 h => ?_))
              refine J_i2l C g70 dX9_digest_68 ?_
              refine J_ladd C dX9_digest_69 ?_
              obtain ⟨h1_70, e72⟩ : ∃ v : Int, v = ((31 * h1_50) + v68) := ⟨_, rfl⟩
              replace h := h h1_70 e72
              refine J_topL e72 ?_
              refine J_lstore_n C dX9_digest_70 rfl (by decide) (lv' := [(1, .long (jL h1_70)), (0, .ref (adE E 0)), (3, .int (jI x3_33)), (4, .int (jI x4_50))]) rfl ?_
              refine J_iinc C dX9_digest_71 3 rfl (by decide) (lv' := [(4, .int (jI (x4_50 + 1))), (1, .long (jL h1_70)), (0, .ref (adE E 0)), (3, .int (jI x3_33))]) rfl ?_
              refine J_goto C (tgt := 50) dX9_digest_74 (by decide) ?_
              obtain ⟨g73, h⟩ := h
              exact J_sub [2, 1, 3, 0] rfl (h g73)
          )
          exact J_sub [1, 2, 3, 0] rfl (h (rgN 0 (by decide)))
      )
      exact J_sub [1, 2, 0] rfl (h (rgN 0 (by decide)))
    · replace h := h.2 q82
      refine J_ldc2 C dX9_digest_12 wc_X9_242 ?_
      refine J_lload_n C dX9_digest_15 rfl 1 rfl ?_
      refine J_lmul C dX9_digest_16 ?_
      refine J_aload_n C dX9_digest_17 rfl 0 rfl ?_
      refine J_iload_n C dX9_digest_18 rfl 2 rfl ?_
      refine J_V C (ct_X9_told hs g3_6 h) ck_X9_told wm_X9_244 win_X9_told wsel_X9_told (dmC hs kc0 (by decide)) (clE_k E s kc0) rfl ⟨rfl, rfl⟩ (by decide) (by decide) (As := [.int (jI x3_6)]) (rest := [.long (jL (31 * h1_6))]) rfl rfl (Nat.le_of_ble_eq_true rfl) dX9_digest_19 (J_pI (fun v76 g78 h => ?_))
      refine J_i2l C g78 dX9_digest_22 ?_
      refine J_ladd C dX9_digest_23 ?_
      obtain ⟨h1_24, e80⟩ : ∃ v : Int, v = ((31 * h1_6) + v76) := ⟨_, rfl⟩
      replace h := h h1_24 e80
      refine J_topL e80 ?_
      refine J_lstore_n C dX9_digest_24 rfl (by decide) (lv' := [(1, .long (jL h1_24)), (0, .ref (adE E 0)), (3, .int (jI x3_6))]) rfl ?_
      refine J_iinc C dX9_digest_25 2 rfl (by decide) (lv' := [(3, .int (jI (x3_6 + 1))), (1, .long (jL h1_24)), (0, .ref (adE E 0))]) rfl ?_
      refine J_goto C (tgt := 6) dX9_digest_28 (by decide) ?_
      obtain ⟨g81, h⟩ := h
      exact J_sub [2, 1, 0] rfl (h g81)
  )
  exact J_sub [2, 1, 0] rfl (h (rgN 0 (by decide)))
set_option maxHeartbeats 4000000 in
set_option maxRecDepth 100000 in
theorem ct_X10_in {l : Launch} {E : ET} (hs : eS E = false) {s : Sg} {x0 : Int} (g0 : rgI x0) {x1 : Int} (g1 : rgI x1) {x2 : Int} (g2 : rgI x2) {Q : Int → Prop} (h : wp_X10_in x0 x1 x2 s Q) : MetE l E yX10_in cX10_in 3 (some .boolean) rm_X10_in s [.int (jI x0), .int (jI x1), .int (jI x2)] (qZ (fun r t => Q r ∧ t = s) (gN s)) := by
  refine MetJ (by decide +kernel) (Nat.le_of_ble_eq_true rfl) ?_
  intro F hl C hF
  subst hl
  show JJ F E 0 0 s 0 [(0, .int (jI x0)), (1, .int (jI x1)), (2, .int (jI x2))] []
  refine J_iload_n C dX10_in_0 rfl 0 rfl ?_
  refine J_iload_n C dX10_in_1 rfl 1 rfl ?_
  refine J_icmp_lt C g0 g1 (tgt := 14) dX10_in_2 (by decide) (fun q22 => ?_) (fun q22 => ?_)
  · replace h := h.1 q22
    refine J_iconst C dX10_in_14 ?_
    exact J_zret C (Nat.zero_le _) (Nat.zero_le _) (nar_z (Or.inl rfl)) dX10_in_15 (by rw [hF]; exact ⟨_, rfl, (Or.inl rfl), ⟨h, rfl⟩, rfl⟩)
  · replace h := h.2 q22
    refine J_iload_n C dX10_in_5 rfl 0 rfl ?_
    refine J_iload_n C dX10_in_6 rfl 2 rfl ?_
    refine J_icmp_gt C g0 g2 (tgt := 14) dX10_in_7 (by decide) (fun q21 => ?_) (fun q21 => ?_)
    · replace h := h.1 q21
      refine J_iconst C dX10_in_14 ?_
      exact J_zret C (Nat.zero_le _) (Nat.zero_le _) (nar_z (Or.inl rfl)) dX10_in_15 (by rw [hF]; exact ⟨_, rfl, (Or.inl rfl), ⟨h, rfl⟩, rfl⟩)
    · replace h := h.2 q21
      refine J_iconst C dX10_in_10 ?_
      refine J_goto C (tgt := 15) dX10_in_11 (by decide) ?_
      exact J_zret C (Nat.zero_le _) (Nat.zero_le _) (nar_z (Or.inr rfl)) dX10_in_15 (by rw [hF]; exact ⟨_, rfl, (Or.inr rfl), ⟨h, rfl⟩, rfl⟩)
set_option maxHeartbeats 4000000 in
set_option maxRecDepth 100000 in
theorem ct_X10_records {l : Launch} {E : ET} (hs : eS E = false) {s : Sg} {Q : Sg → Prop} (h : wp_X10_records s Q) : MetE l E yX10_records cX10_records 2 none rm_X10_records s [.ref (adE E 279)] (qV Q (gN s)) := by
  refine MetJ (by decide +kernel) (Nat.le_of_ble_eq_true rfl) ?_
  intro F hl C hF
  subst hl
  show JJ F E 0 0 s 0 [(0, .ref (adE E 279))] []
  have j52 : ∀ (sj : Sg), wj_X10_records_52    sj Q → gN sj = gN s → JJ F E 0 0 sj 52 [(0, .ref (adE E 279))] [] := by
    intro sj h nj
    refine J_aload_n C dX10_records_52 rfl 0 rfl ?_
    refine J_dup C dX10_records_53 rfl ?_
    refine gf_X10_remembered C hs wf_X10_49 dX10_records_54 (fun g22 => ?_)
    refine J_iconst C dX10_records_57 ?_
    refine J_iadd C dX10_records_58 ?_
    obtain ⟨g25, h⟩ := h
    refine pf_X10_remembered C hs wf_X10_49 g25 dX10_records_59 ?_
    obtain ⟨s23, f24⟩ : ∃ z : Sg, z = sI sj 279 1 ((gI sj 279 1) + 1) := ⟨_, rfl⟩
    replace h := h s23 f24
    refine J_sig f24 ?_
    have n26 : gN s23 = gN s := by rw [f24]; exact nj
    refine J_iconst C dX10_records_62 ?_
    refine J_istore_n C dX10_records_63 rfl (by decide) (lv' := [(1, .int (jI 0)), (0, .ref (adE E 279))]) rfl ?_
    replace h := h (fun (x1_64 : Int) (sL64 : Sg) => rgI x1_64 → gN sL64 = gN s → JJ F E 0 0 sL64 64 [(0, .ref (adE E 279)), (1, .int (jI x1_64))] []) (by
      intro x1_64 sL64 h g1_64 nL64
      refine J_iload_n C dX10_records_64 rfl 1 rfl ?_
      refine J_sipush C dX10_records_65 (by decide) ?_
      refine J_icmp_ge C g1_64 (rgN 1440 (by decide)) (tgt := 98) dX10_records_68 (by decide) (fun q37 => ?_) (fun q37 => ?_)
      · replace h := h.1 q37
        exact J_vret C (Nat.zero_le _) (Nat.zero_le _) dX10_records_98 (by rw [hF]; exact ⟨rfl, h, nL64⟩)
      · replace h := h.2 q37
        refine J_aload_n C dX10_records_71 rfl 0 rfl ?_
        refine gf_X10_page C hs wf_X10_7 dX10_records_72 ?_
        refine J_sipush C dX10_records_75 (by decide) ?_
        refine J_aload_n C dX10_records_78 rfl 0 rfl ?_
        refine gf_X10_remembered C hs wf_X10_49 dX10_records_79 (fun g27 => ?_)
        refine J_imul C dX10_records_82 ?_
        refine J_iload_n C dX10_records_83 rfl 1 rfl ?_
        refine J_iadd C dX10_records_84 ?_
        refine J_aload_n C dX10_records_85 rfl 0 rfl ?_
        refine gf_X10_page C hs wf_X10_7 dX10_records_86 ?_
        refine J_iload_n C dX10_records_89 rfl 1 rfl ?_
        obtain ⟨b28, b29, h⟩ := h
        refine J_iald C (dmM hs kc280 (by decide)) (n := 12960) (clE_k E sL64 kc280) (by decide) b28 b29 dX10_records_90 (fun g30 => ?_)
        obtain ⟨b31, b32, h⟩ := h
        refine J_iast C (wrM hs kc280 (by decide)) (n := 12960) (fun z => clE_k E z kc280) (by decide) b31 b32 g30 dX10_records_91 ?_
        obtain ⟨s33, f34⟩ : ∃ z : Sg, z = sI sL64 280 ((1440 * (gI sL64 279 1)) + x1_64) (gI sL64 280 x1_64) := ⟨_, rfl⟩
        replace h := h s33 f34
        refine J_sig f34 ?_
        have n35 : gN s33 = gN s := by rw [f34]; exact nL64
        refine J_iinc C dX10_records_92 1 rfl (by decide) (lv' := [(1, .int (jI (x1_64 + 1))), (0, .ref (adE E 279))]) rfl ?_
        refine J_goto C (tgt := 64) dX10_records_95 (by decide) ?_
        obtain ⟨g36, h⟩ := h
        exact J_sub [1, 0] rfl (h g36 n35)
    )
    exact J_sub [1, 0] rfl (h (rgN 0 (by decide)) n26)
  refine J_aload_n C dX10_records_0 rfl 0 rfl ?_
  refine gf_X10_remembered C hs wf_X10_49 dX10_records_1 (fun g21 => ?_)
  refine J_bipush C dX10_records_4 (by decide) ?_
  refine J_icmp_ne C g21 (rgN 8 (by decide)) (tgt := 52) dX10_records_6 (by decide) (fun q53 => ?_) (fun q53 => ?_)
  · replace h := h.2 q53
    exact J_sub [0] rfl (j52  _ h rfl)
  · replace h := h.1 q53
    refine J_sipush C dX10_records_9 (by decide) ?_
    refine J_istore_n C dX10_records_12 rfl (by decide) (lv' := [(1, .int (jI 1440)), (0, .ref (adE E 279))]) rfl ?_
    replace h := h (fun (x1_13 : Int) (sL13 : Sg) => rgI x1_13 → gN sL13 = gN s → JJ F E 0 0 sL13 13 [(0, .ref (adE E 279)), (1, .int (jI x1_13))] []) (by
      intro x1_13 sL13 h g1_13 nL13
      refine J_iload_n C dX10_records_13 rfl 1 rfl ?_
      refine J_sipush C dX10_records_14 (by decide) ?_
      refine J_icmp_ge C g1_13 (rgN 11520 (by decide)) (tgt := 42) dX10_records_17 (by decide) (fun q52 => ?_) (fun q52 => ?_)
      · replace h := h.1 q52
        refine J_aload_n C dX10_records_42 rfl 0 rfl ?_
        refine J_dup C dX10_records_43 rfl ?_
        refine gf_X10_remembered C hs wf_X10_49 dX10_records_44 (fun g38 => ?_)
        refine J_iconst C dX10_records_47 ?_
        refine J_isub C dX10_records_48 ?_
        obtain ⟨g41, h⟩ := h
        refine pf_X10_remembered C hs wf_X10_49 g41 dX10_records_49 ?_
        obtain ⟨s39, f40⟩ : ∃ z : Sg, z = sI sL13 279 1 ((gI sL13 279 1) - 1) := ⟨_, rfl⟩
        replace h := h s39 f40
        refine J_sig f40 ?_
        have n42 : gN s39 = gN s := by rw [f40]; exact nL13
        exact J_sub [0] rfl (j52  _ h n42)
      · replace h := h.2 q52
        refine J_aload_n C dX10_records_20 rfl 0 rfl ?_
        refine gf_X10_page C hs wf_X10_7 dX10_records_21 ?_
        refine J_iload_n C dX10_records_24 rfl 1 rfl ?_
        refine J_aload_n C dX10_records_25 rfl 0 rfl ?_
        refine gf_X10_page C hs wf_X10_7 dX10_records_26 ?_
        refine J_iload_n C dX10_records_29 rfl 1 rfl ?_
        refine J_sipush C dX10_records_30 (by decide) ?_
        refine J_iadd C dX10_records_33 ?_
        obtain ⟨b43, b44, h⟩ := h
        refine J_iald C (dmM hs kc280 (by decide)) (n := 12960) (clE_k E sL13 kc280) (by decide) b43 b44 dX10_records_34 (fun g45 => ?_)
        obtain ⟨b46, b47, h⟩ := h
        refine J_iast C (wrM hs kc280 (by decide)) (n := 12960) (fun z => clE_k E z kc280) (by decide) b46 b47 g45 dX10_records_35 ?_
        obtain ⟨s48, f49⟩ : ∃ z : Sg, z = sI sL13 280 x1_13 (gI sL13 280 (x1_13 + 1440)) := ⟨_, rfl⟩
        replace h := h s48 f49
        refine J_sig f49 ?_
        have n50 : gN s48 = gN s := by rw [f49]; exact nL13
        refine J_iinc C dX10_records_36 1 rfl (by decide) (lv' := [(1, .int (jI (x1_13 + 1))), (0, .ref (adE E 279))]) rfl ?_
        refine J_goto C (tgt := 13) dX10_records_39 (by decide) ?_
        obtain ⟨g51, h⟩ := h
        exact J_sub [1, 0] rfl (h g51 n50)
    )
    exact J_sub [1, 0] rfl (h (rgN 1440 (by decide)) rfl)
set_option maxHeartbeats 4000000 in
set_option maxRecDepth 100000 in
theorem ct_X10_setting {l : Launch} {E : ET} (hs : eS E = false) {s : Sg} {x1 : Int} (g1 : rgI x1) {Q : Int → Prop} (h : wp_X10_setting x1 s Q) : MetE l E yX10_setting cX10_setting 2 (some .int) rm_X10_setting s [.ref (adE E 279), .int (jI x1)] (qI (fun r t => Q r ∧ t = s) (gN s)) := by
  refine MetJ (by decide +kernel) (Nat.le_of_ble_eq_true rfl) ?_
  intro F hl C hF
  subst hl
  show JJ F E 0 0 s 0 [(0, .ref (adE E 279)), (1, .int (jI x1))] []
  refine J_aload_n C dX10_setting_0 rfl 0 rfl ?_
  refine gf_X10_page C hs wf_X10_7 dX10_setting_1 ?_
  refine J_sipush C dX10_setting_4 (by decide) ?_
  refine J_iload_n C dX10_setting_7 rfl 1 rfl ?_
  refine J_iadd C dX10_setting_8 ?_
  obtain ⟨b21, b22, h⟩ := h
  refine J_iald C (dmM hs kc280 (by decide)) (n := 12960) (clE_k E s kc280) (by decide) b21 b22 dX10_setting_9 (fun g23 => ?_)
  exact J_iret C (Nat.zero_le _) (Nat.zero_le _) dX10_setting_10 (by rw [hF]; exact ⟨_, rfl, g23, ⟨h, rfl⟩, rfl⟩)
set_option maxHeartbeats 4000000 in
set_option maxRecDepth 100000 in
theorem ct_X10_pieceFirst {l : Launch} {E : ET} (hs : eS E = false) {s : Sg} {x1 : Int} (g1 : rgI x1) {Q : Int → Prop} (h : wp_X10_pieceFirst x1 s Q) : MetE l E yX10_pieceFirst cX10_pieceFirst 2 (some .int) rm_X10_pieceFirst s [.ref (adE E 279), .int (jI x1)] (qI (fun r t => Q r ∧ t = s) (gN s)) := by
  refine MetJ (by decide +kernel) (Nat.le_of_ble_eq_true rfl) ?_
  intro F hl C hF
  subst hl
  show JJ F E 0 0 s 0 [(0, .ref (adE E 279)), (1, .int (jI x1))] []
  refine J_aload_n C dX10_pieceFirst_0 rfl 0 rfl ?_
  refine gf_X10_page C hs wf_X10_7 dX10_pieceFirst_1 ?_
  refine J_iconst C dX10_pieceFirst_4 ?_
  refine J_iconst C dX10_pieceFirst_5 ?_
  refine J_iload_n C dX10_pieceFirst_6 rfl 1 rfl ?_
  refine J_imul C dX10_pieceFirst_7 ?_
  refine J_iadd C dX10_pieceFirst_8 ?_
  obtain ⟨b21, b22, h⟩ := h
  refine J_iald C (dmM hs kc280 (by decide)) (n := 12960) (clE_k E s kc280) (by decide) b21 b22 dX10_pieceFirst_9 (fun g23 => ?_)
  exact J_iret C (Nat.zero_le _) (Nat.zero_le _) dX10_pieceFirst_10 (by rw [hF]; exact ⟨_, rfl, g23, ⟨h, rfl⟩, rfl⟩)
set_option maxHeartbeats 4000000 in
set_option maxRecDepth 100000 in
theorem ct_X10_pieceLong {l : Launch} {E : ET} (hs : eS E = false) {s : Sg} {x1 : Int} (g1 : rgI x1) {Q : Int → Prop} (h : wp_X10_pieceLong x1 s Q) : MetE l E yX10_pieceLong cX10_pieceLong 2 (some .int) rm_X10_pieceLong s [.ref (adE E 279), .int (jI x1)] (qI (fun r t => Q r ∧ t = s) (gN s)) := by
  refine MetJ (by decide +kernel) (Nat.le_of_ble_eq_true rfl) ?_
  intro F hl C hF
  subst hl
  show JJ F E 0 0 s 0 [(0, .ref (adE E 279)), (1, .int (jI x1))] []
  refine J_aload_n C dX10_pieceLong_0 rfl 0 rfl ?_
  refine gf_X10_page C hs wf_X10_7 dX10_pieceLong_1 ?_
  refine J_iconst C dX10_pieceLong_4 ?_
  refine J_iconst C dX10_pieceLong_5 ?_
  refine J_iload_n C dX10_pieceLong_6 rfl 1 rfl ?_
  refine J_imul C dX10_pieceLong_7 ?_
  refine J_iadd C dX10_pieceLong_8 ?_
  refine J_iconst C dX10_pieceLong_9 ?_
  refine J_iadd C dX10_pieceLong_10 ?_
  obtain ⟨b21, b22, h⟩ := h
  refine J_iald C (dmM hs kc280 (by decide)) (n := 12960) (clE_k E s kc280) (by decide) b21 b22 dX10_pieceLong_11 (fun g23 => ?_)
  exact J_iret C (Nat.zero_le _) (Nat.zero_le _) dX10_pieceLong_12 (by rw [hF]; exact ⟨_, rfl, g23, ⟨h, rfl⟩, rfl⟩)
set_option maxHeartbeats 4000000 in
set_option maxRecDepth 100000 in
theorem ct_X10_pieceNew {l : Launch} {E : ET} (hs : eS E = false) {s : Sg} {x1 : Int} (g1 : rgI x1) {Q : Int → Prop} (h : wp_X10_pieceNew x1 s Q) : MetE l E yX10_pieceNew cX10_pieceNew 4 (some .int) rm_X10_pieceNew s [.ref (adE E 279), .int (jI x1)] (qI (fun r t => Q r ∧ t = s) (gN s)) := by
  refine MetJ (by decide +kernel) (Nat.le_of_ble_eq_true rfl) ?_
  intro F hl C hF
  subst hl
  show JJ F E 0 0 s 0 [(0, .ref (adE E 279)), (1, .int (jI x1))] []
  refine J_iconst C dX10_pieceNew_0 ?_
  refine J_istore_n C dX10_pieceNew_1 rfl (by decide) (lv' := [(2, .int (jI 0)), (0, .ref (adE E 279)), (1, .int (jI x1))]) rfl ?_
  refine J_iconst C dX10_pieceNew_2 ?_
  refine J_istore_n C dX10_pieceNew_3 rfl (by decide) (lv' := [(3, .int (jI 0)), (2, .int (jI 0)), (0, .ref (adE E 279)), (1, .int (jI x1))]) rfl ?_
  replace h := h (fun (x2_4 : Int) (x3_4 : Int) => rgI x2_4 → rgI x3_4 → JJ F E 0 0 s 4 [(0, .ref (adE E 279)), (1, .int (jI x1)), (2, .int (jI x2_4)), (3, .int (jI x3_4))] []) (by
    intro x2_4 x3_4 h g2_4 g3_4
    refine J_iload_n C dX10_pieceNew_4 rfl 3 rfl ?_
    refine J_iload_n C dX10_pieceNew_5 rfl 1 rfl ?_
    refine J_icmp_ge C g3_4 g1 (tgt := 23) dX10_pieceNew_6 (by decide) (fun q27 => ?_) (fun q27 => ?_)
    · replace h := h.1 q27
      refine J_iload_n C dX10_pieceNew_23 rfl 2 rfl ?_
      exact J_iret C (Nat.zero_le _) (Nat.zero_le _) dX10_pieceNew_24 (by rw [hF]; exact ⟨_, rfl, g2_4, ⟨h, rfl⟩, rfl⟩)
    · replace h := h.2 q27
      refine J_iload_n C dX10_pieceNew_9 rfl 2 rfl ?_
      refine J_aload_n C dX10_pieceNew_10 rfl 0 rfl ?_
      refine J_iload_n C dX10_pieceNew_11 rfl 3 rfl ?_
      refine J_V C (ct_X10_pieceLong hs g3_4 h) ck_X10_pieceLong wm_X10_53 win_X10_pieceLong wsel_X10_pieceLong (dmM hs kc279 (by decide)) (clE_k E s kc279) rfl ⟨rfl, rfl⟩ (by decide) (by decide) (As := [.int (jI x3_4)]) (rest := [.int (jI x2_4)]) rfl rfl (Nat.le_of_ble_eq_true rfl) dX10_pieceNew_12 (J_pI (fun v21 g23 h => ?_))
      refine J_iadd C dX10_pieceNew_15 ?_
      obtain ⟨x2_16, e25⟩ : ∃ v : Int, v = (x2_4 + v21) := ⟨_, rfl⟩
      obtain ⟨g2_16, h⟩ := h x2_16 e25
      refine J_top e25 ?_
      refine J_istore_n C dX10_pieceNew_16 rfl (by decide) (lv' := [(2, .int (jI x2_16)), (0, .ref (adE E 279)), (1, .int (jI x1)), (3, .int (jI x3_4))]) rfl ?_
      refine J_iinc C dX10_pieceNew_17 3 rfl (by decide) (lv' := [(3, .int (jI (x3_4 + 1))), (2, .int (jI x2_16)), (0, .ref (adE E 279)), (1, .int (jI x1))]) rfl ?_
      refine J_goto C (tgt := 4) dX10_pieceNew_20 (by decide) ?_
      obtain ⟨g26, h⟩ := h
      exact J_sub [2, 3, 1, 0] rfl (h g2_16 g26)
  )
  exact J_sub [2, 3, 1, 0] rfl (h (rgN 0 (by decide)) (rgN 0 (by decide)))
set_option maxHeartbeats 4000000 in
set_option maxRecDepth 100000 in
theorem ct_X10_newLong {l : Launch} {E : ET} (hs : eS E = false) {s : Sg} {Q : Int → Prop} (h : wp_X10_newLong s Q) : MetE l E yX10_newLong cX10_newLong 1 (some .int) rm_X10_newLong s [.ref (adE E 279)] (qI (fun r t => Q r ∧ t = s) (gN s)) := by
  refine MetJ (by decide +kernel) (Nat.le_of_ble_eq_true rfl) ?_
  intro F hl C hF
  subst hl
  show JJ F E 0 0 s 0 [(0, .ref (adE E 279))] []
  refine J_aload_n C dX10_newLong_0 rfl 0 rfl ?_
  refine J_aload_n C dX10_newLong_1 rfl 0 rfl ?_
  refine gf_X10_page C hs wf_X10_7 dX10_newLong_2 ?_
  refine J_iconst C dX10_newLong_5 ?_
  obtain ⟨b21, b22, h⟩ := h
  refine J_iald C (dmM hs kc280 (by decide)) (n := 12960) (clE_k E s kc280) (by decide) b21 b22 dX10_newLong_6 (fun g23 => ?_)
  refine J_V C (ct_X10_pieceNew hs g23 h) ck_X10_pieceNew wm_X10_57 win_X10_pieceNew wsel_X10_pieceNew (dmM hs kc279 (by decide)) (clE_k E s kc279) rfl ⟨rfl, rfl⟩ (by decide) (by decide) (As := [.int (jI (gI s 280 0))]) (rest := []) rfl rfl (Nat.le_of_ble_eq_true rfl) dX10_newLong_7 (J_pI (fun v24 g26 h => ?_))
  exact J_iret C (Nat.zero_le _) (Nat.zero_le _) dX10_newLong_10 (by rw [hF]; exact ⟨_, rfl, g26, ⟨h, rfl⟩, rfl⟩)
set_option maxHeartbeats 4000000 in
set_option maxRecDepth 100000 in
theorem ct_X10_isPiece {l : Launch} {E : ET} (hs : eS E = false) {s : Sg} {x1 : Int} (g1 : rgI x1) {Q : Int → Prop} (h : wp_X10_isPiece x1 s Q) : MetE l E yX10_isPiece cX10_isPiece 2 (some .boolean) rm_X10_isPiece s [.ref (adE E 279), .int (jI x1)] (qZ (fun r t => Q r ∧ t = s) (gN s)) := by
  refine MetJ (by decide +kernel) (Nat.le_of_ble_eq_true rfl) ?_
  intro F hl C hF
  subst hl
  show JJ F E 0 0 s 0 [(0, .ref (adE E 279)), (1, .int (jI x1))] []
  refine J_iload_n C dX10_isPiece_0 rfl 1 rfl ?_
  refine J_iconst C dX10_isPiece_1 ?_
  refine J_aload_n C dX10_isPiece_2 rfl 0 rfl ?_
  refine gf_X10_page C hs wf_X10_7 dX10_isPiece_3 ?_
  refine J_iconst C dX10_isPiece_6 ?_
  obtain ⟨b21, b22, h⟩ := h
  refine J_iald C (dmM hs kc280 (by decide)) (n := 12960) (clE_k E s kc280) (by decide) b21 b22 dX10_isPiece_7 (fun g23 => ?_)
  refine J_iconst C dX10_isPiece_8 ?_
  refine J_isub C dX10_isPiece_9 ?_
  obtain ⟨g24, h⟩ := h
  refine J_S C (ct_X10_in hs g1 (rgN 0 (by decide)) g24 h) ck_X10_in wm_X10_60 wst_X10_in ⟨rfl, rfl⟩ (by decide) (by decide) (As := [.int (jI x1), .int (jI 0), .int (jI ((gI s 280 0) - 1))]) (rest := []) rfl rfl (Nat.le_of_ble_eq_true rfl) dX10_isPiece_10 (J_pZ (fun v25 g27 h => ?_))
  exact J_zret C (Nat.zero_le _) (Nat.zero_le _) (nar_z g27) dX10_isPiece_13 (by rw [hF]; exact ⟨_, rfl, g27, ⟨h, rfl⟩, rfl⟩)
