/-! contracts (printed by wip/whole/gen) -/
set_option maxHeartbeats 4000000 in
set_option maxRecDepth 100000 in
theorem ct_X9_pieceAt {l : Launch} {E : ET} (hs : eS E = true) {s : Sg} {x1 : Int} (g1 : rgI x1) {x2 : Int} (g2 : rgI x2) {Q : Int → Prop} (h : wp_X9_pieceAt x1 x2 s Q) : MetE l E yX9_pieceAt cX9_pieceAt 3 (some .int) rm_X9_pieceAt s [.ref (adE E 0), .int (jI x1), .int (jI x2)] (qI (fun r t => Q r ∧ t = s) (gN s)) := by
  refine MetJ (by decide +kernel) (Nat.le_of_ble_eq_true rfl) ?_
  intro F hl C hF
  subst hl
  show JJ F E 0 0 s 0 [(0, .ref (adE E 0)), (1, .int (jI x1)), (2, .int (jI x2))] []
  refine J_aload_n C dX9_pieceAt_0 rfl 0 rfl ?_
  refine gf_X9_now C hs wf_X9_23 dX9_pieceAt_1 ?_
  refine gf_X5_cut C hs kc4 wf_X9_45 dX9_pieceAt_4 ?_
  refine J_iload_n C dX9_pieceAt_7 rfl 1 rfl ?_
  refine J_V C (ct_X0_has hs (kd5_cut kc4) g1 h) ck_X0_has wm_X9_66 win_X0_has wsel_X0_has (dmC hs (kd5_cut kc4) (by decide)) (clE_k E s (kd5_cut kc4)) rfl ⟨rfl, rfl⟩ (by decide) (by decide) (As := [.int (jI x1)]) (rest := []) rfl rfl (Nat.le_of_ble_eq_true rfl) dX9_pieceAt_8 (J_pZ (fun v21 g23 h => ?_))
  refine J_if_ne C (rg_z g23) (tgt := 16) dX9_pieceAt_11 (by decide) (fun q38 => ?_) (fun q38 => ?_)
  · replace h := h.2 q38
    refine J_iload_n C dX9_pieceAt_16 rfl 2 rfl ?_
    have q25 : (x2 < 0 ∨ 2 < x2) ∨ x2 = 0 ∨ x2 = 1 ∨ x2 = 2 := by omega
    rcases q25 with q25 | q25 | q25 | q25
    · replace h := h.2.2.2 q25
      refine J_tswOut C g2 (tgt := 80) dX9_pieceAt_17 q25 (by decide) ?_
      refine J_iconst C dX9_pieceAt_80 ?_
      exact J_iret C (Nat.zero_le _) (Nat.zero_le _) dX9_pieceAt_81 (by rw [hF]; exact ⟨_, rfl, (rgN (-1) (by decide)), ⟨h, rfl⟩, rfl⟩)
    · replace h := h.1 q25
      refine J_tswIn C q25 (rgN 0 (by decide)) (tgt := 44) (off := 27) dX9_pieceAt_17 (by decide) (by decide) rfl (by decide) ?_
      refine J_aload_n C dX9_pieceAt_44 rfl 0 rfl ?_
      refine gf_X9_now C hs wf_X9_23 dX9_pieceAt_45 ?_
      refine gf_X5_cut C hs kc4 wf_X9_45 dX9_pieceAt_48 ?_
      refine J_iload_n C dX9_pieceAt_51 rfl 1 rfl ?_
      refine J_V C (ct_X0_firstOf hs (kd5_cut kc4) g1 h) ck_X0_firstOf wm_X9_74 win_X0_firstOf wsel_X0_firstOf (dmC hs (kd5_cut kc4) (by decide)) (clE_k E s (kd5_cut kc4)) rfl ⟨rfl, rfl⟩ (by decide) (by decide) (As := [.int (jI x1)]) (rest := []) rfl rfl (Nat.le_of_ble_eq_true rfl) dX9_pieceAt_52 (J_pI (fun v26 g28 h => ?_))
      exact J_iret C (Nat.zero_le _) (Nat.zero_le _) dX9_pieceAt_55 (by rw [hF]; exact ⟨_, rfl, g28, ⟨h, rfl⟩, rfl⟩)
    · replace h := h.2.1 q25
      refine J_tswIn C q25 (rgN 1 (by decide)) (tgt := 56) (off := 39) dX9_pieceAt_17 (by decide) (by decide) rfl (by decide) ?_
      refine J_aload_n C dX9_pieceAt_56 rfl 0 rfl ?_
      refine gf_X9_now C hs wf_X9_23 dX9_pieceAt_57 ?_
      refine gf_X5_cut C hs kc4 wf_X9_45 dX9_pieceAt_60 ?_
      refine J_iload_n C dX9_pieceAt_63 rfl 1 rfl ?_
      refine J_V C (ct_X0_lengthOf hs (kd5_cut kc4) g1 h) ck_X0_lengthOf wm_X9_78 win_X0_lengthOf wsel_X0_lengthOf (dmC hs (kd5_cut kc4) (by decide)) (clE_k E s (kd5_cut kc4)) rfl ⟨rfl, rfl⟩ (by decide) (by decide) (As := [.int (jI x1)]) (rest := []) rfl rfl (Nat.le_of_ble_eq_true rfl) dX9_pieceAt_64 (J_pI (fun v30 g32 h => ?_))
      exact J_iret C (Nat.zero_le _) (Nat.zero_le _) dX9_pieceAt_67 (by rw [hF]; exact ⟨_, rfl, g32, ⟨h, rfl⟩, rfl⟩)
    · replace h := h.2.2.1 q25
      refine J_tswIn C q25 (rgN 2 (by decide)) (tgt := 68) (off := 51) dX9_pieceAt_17 (by decide) (by decide) rfl (by decide) ?_
      refine J_aload_n C dX9_pieceAt_68 rfl 0 rfl ?_
      refine gf_X9_now C hs wf_X9_23 dX9_pieceAt_69 ?_
      refine gf_X5_cut C hs kc4 wf_X9_45 dX9_pieceAt_72 ?_
      refine J_iload_n C dX9_pieceAt_75 rfl 1 rfl ?_
      refine J_V C (ct_X0_startOf hs (kd5_cut kc4) g1 h) ck_X0_startOf wm_X9_81 win_X0_startOf wsel_X0_startOf (dmC hs (kd5_cut kc4) (by decide)) (clE_k E s (kd5_cut kc4)) rfl ⟨rfl, rfl⟩ (by decide) (by decide) (As := [.int (jI x1)]) (rest := []) rfl rfl (Nat.le_of_ble_eq_true rfl) dX9_pieceAt_76 (J_pI (fun v34 g36 h => ?_))
      exact J_iret C (Nat.zero_le _) (Nat.zero_le _) dX9_pieceAt_79 (by rw [hF]; exact ⟨_, rfl, g36, ⟨h, rfl⟩, rfl⟩)
  · replace h := h.1 q38
    refine J_iconst C dX9_pieceAt_14 ?_
    exact J_iret C (Nat.zero_le _) (Nat.zero_le _) dX9_pieceAt_15 (by rw [hF]; exact ⟨_, rfl, (rgN (-1) (by decide)), ⟨h, rfl⟩, rfl⟩)
set_option maxHeartbeats 4000000 in
set_option maxRecDepth 100000 in
theorem ct_X9_shot {l : Launch} {E : ET} (hs : eS E = true) {s : Sg} {x1 : Int} (g1 : rgI x1) {x2 : Int} (g2 : rgI x2) {Q : Int → Sg → Prop} (h : wp_X9_shot x1 x2 s Q) : MetE l E yX9_shot cX9_shot 3 (some .int) rm_X9_shot s [.ref (adE E 0), .int (jI x1), .int (jI x2)] (qI Q (gN s)) := by
  refine MetJ (by decide +kernel) (Nat.le_of_ble_eq_true rfl) ?_
  intro F hl C hF
  subst hl
  show JJ F E 0 0 s 0 [(0, .ref (adE E 0)), (1, .int (jI x1)), (2, .int (jI x2))] []
  have j49 : ∀ (x1 : Int) (x2 : Int) (sj : Sg), wj_X9_shot_49   x1 x2 sj Q → rgI x1 → rgI x2 → gN sj = gN s → JJ F E 0 0 sj 49 [(0, .ref (adE E 0)), (1, .int (jI x1)), (2, .int (jI x2))] [] := by
    intro x1 x2 sj h g1 g2 nj
    refine J_aload_n C dX9_shot_49 rfl 0 rfl ?_
    refine gf_X9_history C hs wf_X9_37 dX9_shot_50 ?_
    refine J_aload_n C dX9_shot_53 rfl 0 rfl ?_
    refine gf_X9_now C hs wf_X9_23 dX9_shot_54 ?_
    refine J_V C (ct_X1_record hs kc4 h) ck_X1_record wm_X9_58 win_X1_record wsel_X1_record (dmC hs kc61 (by decide)) (clE_k E sj kc61) rfl ⟨rfl, rfl⟩ (by decide) (by decide) (As := [.ref (adE E 4)]) (rest := []) rfl rfl (Nat.le_of_ble_eq_true rfl) dX9_shot_57 (J_kV (fun s26 h n28 => ?_))
    have n29 : gN s26 = gN s := n28.trans (nj)
    refine J_iload_n C dX9_shot_60 rfl 2 rfl ?_
    refine J_if_eq C g2 (tgt := 78) dX9_shot_61 (by decide) (fun q48 => ?_) (fun q48 => ?_)
    · replace h := h.1 q48
      refine J_aload_n C dX9_shot_78 rfl 0 rfl ?_
      refine gf_X9_now C hs wf_X9_23 dX9_shot_79 ?_
      refine gf_X5_shots C hs kc4 wf_X9_84 dX9_shot_82 ?_
      refine J_iload_n C dX9_shot_85 rfl 1 rfl ?_
      refine J_V C (ct_X4_remove hs (kd5_shots kc4) g1 h) ck_X4_remove wm_X9_95 win_X4_remove wsel_X4_remove (dmC hs (kd5_shots kc4) (by decide)) (clE_k E s26 (kd5_shots kc4)) rfl ⟨rfl, rfl⟩ (by decide) (by decide) (As := [.int (jI x1)]) (rest := []) rfl rfl (Nat.le_of_ble_eq_true rfl) dX9_shot_86 (J_kV (fun s31 h n33 => ?_))
      have n34 : gN s31 = gN s := n33.trans (n29)
      refine J_aload_n C dX9_shot_89 rfl 0 rfl ?_
      refine gf_X9_now C hs wf_X9_23 dX9_shot_90 ?_
      refine gf_X5_shots C hs kc4 wf_X9_84 dX9_shot_93 ?_
      refine J_V C (ct_X4_size hs (kd5_shots kc4) h) ck_X4_size wm_X9_91 win_X4_size wsel_X4_size (dmC hs (kd5_shots kc4) (by decide)) (clE_k E s31 (kd5_shots kc4)) rfl ⟨rfl, rfl⟩ (by decide) (by decide) (As := []) (rest := []) rfl rfl (Nat.le_of_ble_eq_true rfl) dX9_shot_96 (J_pI (fun v35 g37 h => ?_))
      exact J_iret C (Nat.zero_le _) (Nat.zero_le _) dX9_shot_99 (by rw [hF]; exact ⟨_, rfl, g37, h, n34⟩)
    · replace h := h.2 q48
      refine J_aload_n C dX9_shot_64 rfl 0 rfl ?_
      refine gf_X9_now C hs wf_X9_23 dX9_shot_65 ?_
      refine gf_X5_shots C hs kc4 wf_X9_84 dX9_shot_68 ?_
      refine J_iload_n C dX9_shot_71 rfl 1 rfl ?_
      refine J_V C (ct_X4_insert hs (kd5_shots kc4) g1 h) ck_X4_insert wm_X9_92 win_X4_insert wsel_X4_insert (dmC hs (kd5_shots kc4) (by decide)) (clE_k E s26 (kd5_shots kc4)) rfl ⟨rfl, rfl⟩ (by decide) (by decide) (As := [.int (jI x1)]) (rest := []) rfl rfl (Nat.le_of_ble_eq_true rfl) dX9_shot_72 (J_kV (fun s40 h n42 => ?_))
      have n43 : gN s40 = gN s := n42.trans (n29)
      refine J_goto C (tgt := 89) dX9_shot_75 (by decide) ?_
      refine J_aload_n C dX9_shot_89 rfl 0 rfl ?_
      refine gf_X9_now C hs wf_X9_23 dX9_shot_90 ?_
      refine gf_X5_shots C hs kc4 wf_X9_84 dX9_shot_93 ?_
      refine J_V C (ct_X4_size hs (kd5_shots kc4) h) ck_X4_size wm_X9_91 win_X4_size wsel_X4_size (dmC hs (kd5_shots kc4) (by decide)) (clE_k E s40 (kd5_shots kc4)) rfl ⟨rfl, rfl⟩ (by decide) (by decide) (As := []) (rest := []) rfl rfl (Nat.le_of_ble_eq_true rfl) dX9_shot_96 (J_pI (fun v44 g46 h => ?_))
      exact J_iret C (Nat.zero_le _) (Nat.zero_le _) dX9_shot_99 (by rw [hF]; exact ⟨_, rfl, g46, h, n43⟩)
  refine J_iload_n C dX9_shot_0 rfl 1 rfl ?_
  refine J_iconst C dX9_shot_1 ?_
  refine J_sipush C dX9_shot_2 (by decide) ?_
  refine J_S C (ct_X9_isWithin hs g1 (rgN 1 (by decide)) (rgN 9998 (by decide)) h) ck_X9_isWithin wm_X9_41 wst_X9_isWithin ⟨rfl, rfl⟩ (by decide) (by decide) (As := [.int (jI x1), .int (jI 1), .int (jI 9998)]) (rest := []) rfl rfl (Nat.le_of_ble_eq_true rfl) dX9_shot_5 (J_pZ (fun v21 g23 h => ?_))
  refine J_if_ne C (rg_z g23) (tgt := 13) dX9_shot_8 (by decide) (fun q60 => ?_) (fun q60 => ?_)
  · replace h := h.2 q60
    refine J_iload_n C dX9_shot_13 rfl 2 rfl ?_
    refine J_if_eq C g2 (tgt := 49) dX9_shot_14 (by decide) (fun q59 => ?_) (fun q59 => ?_)
    · replace h := h.1 q59
      exact J_sub [0, 1, 2] rfl (j49 _ _ _ h g1 g2 rfl)
    · replace h := h.2 q59
      refine J_aload_n C dX9_shot_17 rfl 0 rfl ?_
      refine gf_X9_now C hs wf_X9_23 dX9_shot_18 ?_
      refine gf_X5_shots C hs kc4 wf_X9_84 dX9_shot_21 ?_
      refine J_iload_n C dX9_shot_24 rfl 1 rfl ?_
      refine J_V C (ct_X4_has hs (kd5_shots kc4) g1 h) ck_X4_has wm_X9_88 win_X4_has wsel_X4_has (dmC hs (kd5_shots kc4) (by decide)) (clE_k E s (kd5_shots kc4)) rfl ⟨rfl, rfl⟩ (by decide) (by decide) (As := [.int (jI x1)]) (rest := []) rfl rfl (Nat.le_of_ble_eq_true rfl) dX9_shot_25 (J_pZ (fun v49 g51 h => ?_))
      refine J_if_ne C (rg_z g51) (tgt := 49) dX9_shot_28 (by decide) (fun q58 => ?_) (fun q58 => ?_)
      · replace h := h.2 q58
        exact J_sub [0, 1, 2] rfl (j49 _ _ _ h g1 g2 rfl)
      · replace h := h.1 q58
        refine J_aload_n C dX9_shot_31 rfl 0 rfl ?_
        refine gf_X9_now C hs wf_X9_23 dX9_shot_32 ?_
        refine gf_X5_shots C hs kc4 wf_X9_84 dX9_shot_35 ?_
        refine J_V C (ct_X4_size hs (kd5_shots kc4) h) ck_X4_size wm_X9_91 win_X4_size wsel_X4_size (dmC hs (kd5_shots kc4) (by decide)) (clE_k E s (kd5_shots kc4)) rfl ⟨rfl, rfl⟩ (by decide) (by decide) (As := []) (rest := []) rfl rfl (Nat.le_of_ble_eq_true rfl) dX9_shot_38 (J_pI (fun v53 g55 h => ?_))
        refine J_bipush C dX9_shot_41 (by decide) ?_
        refine J_icmp_lt C g55 (rgN 20 (by decide)) (tgt := 49) dX9_shot_43 (by decide) (fun q57 => ?_) (fun q57 => ?_)
        · replace h := h.1 q57
          exact J_sub [0, 1, 2] rfl (j49 _ _ _ h g1 g2 rfl)
        · replace h := h.2 q57
          refine J_bipush C dX9_shot_46 (by decide) ?_
          exact J_iret C (Nat.zero_le _) (Nat.zero_le _) dX9_shot_48 (by rw [hF]; exact ⟨_, rfl, (rgN (-3) (by decide)), h, rfl⟩)
  · replace h := h.1 q60
    refine J_iconst C dX9_shot_11 ?_
    exact J_iret C (Nat.zero_le _) (Nat.zero_le _) dX9_shot_12 (by rw [hF]; exact ⟨_, rfl, (rgN (-1) (by decide)), h, rfl⟩)
set_option maxHeartbeats 4000000 in
set_option maxRecDepth 100000 in
theorem ct_X9_shotAt {l : Launch} {E : ET} (hs : eS E = true) {s : Sg} {x1 : Int} (g1 : rgI x1) {Q : Int → Prop} (h : wp_X9_shotAt x1 s Q) : MetE l E yX9_shotAt cX9_shotAt 2 (some .int) rm_X9_shotAt s [.ref (adE E 0), .int (jI x1)] (qI (fun r t => Q r ∧ t = s) (gN s)) := by
  refine MetJ (by decide +kernel) (Nat.le_of_ble_eq_true rfl) ?_
  intro F hl C hF
  subst hl
  show JJ F E 0 0 s 0 [(0, .ref (adE E 0)), (1, .int (jI x1))] []
  refine J_iload_n C dX9_shotAt_0 rfl 1 rfl ?_
  refine J_if_ge C g1 (tgt := 8) dX9_shotAt_1 (by decide) (fun q25 => ?_) (fun q25 => ?_)
  · replace h := h.1 q25
    refine J_aload_n C dX9_shotAt_8 rfl 0 rfl ?_
    refine gf_X9_now C hs wf_X9_23 dX9_shotAt_9 ?_
    refine gf_X5_shots C hs kc4 wf_X9_84 dX9_shotAt_12 ?_
    refine J_iload_n C dX9_shotAt_15 rfl 1 rfl ?_
    refine J_V C (ct_X4_at hs (kd5_shots kc4) g1 h) ck_X4_at wm_X9_96 win_X4_at wsel_X4_at (dmC hs (kd5_shots kc4) (by decide)) (clE_k E s (kd5_shots kc4)) rfl ⟨rfl, rfl⟩ (by decide) (by decide) (As := [.int (jI x1)]) (rest := []) rfl rfl (Nat.le_of_ble_eq_true rfl) dX9_shotAt_16 (J_pI (fun v21 g23 h => ?_))
    exact J_iret C (Nat.zero_le _) (Nat.zero_le _) dX9_shotAt_19 (by rw [hF]; exact ⟨_, rfl, g23, ⟨h, rfl⟩, rfl⟩)
  · replace h := h.2 q25
    refine J_iconst C dX9_shotAt_4 ?_
    refine J_goto C (tgt := 19) dX9_shotAt_5 (by decide) ?_
    exact J_iret C (Nat.zero_le _) (Nat.zero_le _) dX9_shotAt_19 (by rw [hF]; exact ⟨_, rfl, (rgN (-1) (by decide)), ⟨h, rfl⟩, rfl⟩)
set_option maxHeartbeats 4000000 in
set_option maxRecDepth 100000 in
theorem ct_X9_toNew {l : Launch} {E : ET} (hs : eS E = true) {s : Sg} {x1 : Int} (g1 : rgI x1) {x2 : Int} (g2 : rgI x2) {Q : Int → Prop} (h : wp_X9_toNew x1 x2 s Q) : MetE l E yX9_toNew cX9_toNew 3 (some .int) rm_X9_toNew s [.ref (adE E 0), .int (jI x1), .int (jI x2)] (qI (fun r t => Q r ∧ t = s) (gN s)) := by
  refine MetJ (by decide +kernel) (Nat.le_of_ble_eq_true rfl) ?_
  intro F hl C hF
  subst hl
  show JJ F E 0 0 s 0 [(0, .ref (adE E 0)), (1, .int (jI x1)), (2, .int (jI x2))] []
  refine J_iload_n C dX9_toNew_0 rfl 1 rfl ?_
  refine J_iconst C dX9_toNew_1 ?_
  refine J_sipush C dX9_toNew_2 (by decide) ?_
  refine J_S C (ct_X9_isWithin hs g1 (rgN 0 (by decide)) (rgN 9999 (by decide)) h) ck_X9_isWithin wm_X9_41 wst_X9_isWithin ⟨rfl, rfl⟩ (by decide) (by decide) (As := [.int (jI x1), .int (jI 0), .int (jI 9999)]) (rest := []) rfl rfl (Nat.le_of_ble_eq_true rfl) dX9_toNew_5 (J_pZ (fun v21 g23 h => ?_))
  refine J_if_eq C (rg_z g23) (tgt := 15) dX9_toNew_8 (by decide) (fun q30 => ?_) (fun q30 => ?_)
  · replace h := h.1 q30
    refine J_iconst C dX9_toNew_15 ?_
    exact J_iret C (Nat.zero_le _) (Nat.zero_le _) dX9_toNew_16 (by rw [hF]; exact ⟨_, rfl, (rgN (-1) (by decide)), ⟨h, rfl⟩, rfl⟩)
  · replace h := h.2 q30
    refine J_iload_n C dX9_toNew_11 rfl 2 rfl ?_
    refine J_if_ge C g2 (tgt := 17) dX9_toNew_12 (by decide) (fun q29 => ?_) (fun q29 => ?_)
    · replace h := h.1 q29
      refine J_aload_n C dX9_toNew_17 rfl 0 rfl ?_
      refine gf_X9_now C hs wf_X9_23 dX9_toNew_18 ?_
      refine gf_X5_cut C hs kc4 wf_X9_45 dX9_toNew_21 ?_
      refine J_iload_n C dX9_toNew_24 rfl 1 rfl ?_
      refine J_iload_n C dX9_toNew_25 rfl 2 rfl ?_
      refine J_V C (ct_X0_newFrame hs (kd5_cut kc4) g1 g2 h) ck_X0_newFrame wm_X9_99 win_X0_newFrame wsel_X0_newFrame (dmC hs (kd5_cut kc4) (by decide)) (clE_k E s (kd5_cut kc4)) rfl ⟨rfl, rfl⟩ (by decide) (by decide) (As := [.int (jI x1), .int (jI x2)]) (rest := []) rfl rfl (Nat.le_of_ble_eq_true rfl) dX9_toNew_26 (J_pI (fun v25 g27 h => ?_))
      exact J_iret C (Nat.zero_le _) (Nat.zero_le _) dX9_toNew_29 (by rw [hF]; exact ⟨_, rfl, g27, ⟨h, rfl⟩, rfl⟩)
    · replace h := h.2 q29
      refine J_iconst C dX9_toNew_15 ?_
      exact J_iret C (Nat.zero_le _) (Nat.zero_le _) dX9_toNew_16 (by rw [hF]; exact ⟨_, rfl, (rgN (-1) (by decide)), ⟨h, rfl⟩, rfl⟩)
set_option maxHeartbeats 4000000 in
set_option maxRecDepth 100000 in
theorem ct_X9_toOld {l : Launch} {E : ET} (hs : eS E = true) {s : Sg} {x1 : Int} (g1 : rgI x1) {Q : Int → Prop} (h : wp_X9_toOld x1 s Q) : MetE l E yX9_toOld cX9_toOld 2 (some .int) rm_X9_toOld s [.ref (adE E 0), .int (jI x1)] (qI (fun r t => Q r ∧ t = s) (gN s)) := by
  refine MetJ (by decide +kernel) (Nat.le_of_ble_eq_true rfl) ?_
  intro F hl C hF
  subst hl
  show JJ F E 0 0 s 0 [(0, .ref (adE E 0)), (1, .int (jI x1))] []
  refine J_iload_n C dX9_toOld_0 rfl 1 rfl ?_
  refine J_iconst C dX9_toOld_1 ?_
  refine J_sipush C dX9_toOld_2 (by decide) ?_
  refine J_S C (ct_X9_isWithin hs g1 (rgN 0 (by decide)) (rgN 9999 (by decide)) h) ck_X9_isWithin wm_X9_41 wst_X9_isWithin ⟨rfl, rfl⟩ (by decide) (by decide) (As := [.int (jI x1), .int (jI 0), .int (jI 9999)]) (rest := []) rfl rfl (Nat.le_of_ble_eq_true rfl) dX9_toOld_5 (J_pZ (fun v21 g23 h => ?_))
  refine J_if_eq C (rg_z g23) (tgt := 25) dX9_toOld_8 (by decide) (fun q29 => ?_) (fun q29 => ?_)
  · replace h := h.1 q29
    refine J_iconst C dX9_toOld_25 ?_
    exact J_iret C (Nat.zero_le _) (Nat.zero_le _) dX9_toOld_26 (by rw [hF]; exact ⟨_, rfl, (rgN (-1) (by decide)), ⟨h, rfl⟩, rfl⟩)
  · replace h := h.2 q29
    refine J_aload_n C dX9_toOld_11 rfl 0 rfl ?_
    refine gf_X9_now C hs wf_X9_23 dX9_toOld_12 ?_
    refine gf_X5_cut C hs kc4 wf_X9_45 dX9_toOld_15 ?_
    refine J_iload_n C dX9_toOld_18 rfl 1 rfl ?_
    refine J_V C (ct_X0_oldFrame hs (kd5_cut kc4) g1 h) ck_X0_oldFrame wm_X9_103 win_X0_oldFrame wsel_X0_oldFrame (dmC hs (kd5_cut kc4) (by decide)) (clE_k E s (kd5_cut kc4)) rfl ⟨rfl, rfl⟩ (by decide) (by decide) (As := [.int (jI x1)]) (rest := []) rfl rfl (Nat.le_of_ble_eq_true rfl) dX9_toOld_19 (J_pI (fun v25 g27 h => ?_))
    refine J_goto C (tgt := 26) dX9_toOld_22 (by decide) ?_
    exact J_iret C (Nat.zero_le _) (Nat.zero_le _) dX9_toOld_26 (by rw [hF]; exact ⟨_, rfl, g27, ⟨h, rfl⟩, rfl⟩)
set_option maxHeartbeats 4000000 in
set_option maxRecDepth 100000 in
theorem ct_X9_type {l : Launch} {E : ET} (hs : eS E = true) {s : Sg} {x1 : Int} (g1 : rgI x1) {Q : Int → Sg → Prop} (h : wp_X9_type x1 s Q) : MetE l E yX9_type cX9_type 2 (some .int) rm_X9_type s [.ref (adE E 0), .int (jI x1)] (qI Q (gN s)) := by
  refine MetJ (by decide +kernel) (Nat.le_of_ble_eq_true rfl) ?_
  intro F hl C hF
  subst hl
  show JJ F E 0 0 s 0 [(0, .ref (adE E 0)), (1, .int (jI x1))] []
  refine J_iload_n C dX9_type_0 rfl 1 rfl ?_
  refine J_bipush C dX9_type_1 (by decide) ?_
  refine J_bipush C dX9_type_3 (by decide) ?_
  refine J_S C (ct_X9_isWithin hs g1 (rgN 32 (by decide)) (rgN 126 (by decide)) h) ck_X9_isWithin wm_X9_41 wst_X9_isWithin ⟨rfl, rfl⟩ (by decide) (by decide) (As := [.int (jI x1), .int (jI 32), .int (jI 126)]) (rest := []) rfl rfl (Nat.le_of_ble_eq_true rfl) dX9_type_5 (J_pZ (fun v21 g23 h => ?_))
  refine J_if_ne C (rg_z g23) (tgt := 13) dX9_type_8 (by decide) (fun q42 => ?_) (fun q42 => ?_)
  · replace h := h.2 q42
    refine J_aload_n C dX9_type_13 rfl 0 rfl ?_
    refine gf_X9_typedBytes C hs wf_X9_106 dX9_type_14 (fun g25 => ?_)
    refine J_if_lt C g25 (tgt := 32) dX9_type_17 (by decide) (fun q41 => ?_) (fun q41 => ?_)
    · replace h := h.1 q41
      refine J_bipush C dX9_type_32 (by decide) ?_
      exact J_iret C (Nat.zero_le _) (Nat.zero_le _) dX9_type_34 (by rw [hF]; exact ⟨_, rfl, (rgN (-3) (by decide)), h, rfl⟩)
    · replace h := h.2 q41
      refine J_aload_n C dX9_type_20 rfl 0 rfl ?_
      refine gf_X9_typedBytes C hs wf_X9_106 dX9_type_21 (fun g26 => ?_)
      refine J_aload_n C dX9_type_24 rfl 0 rfl ?_
      refine gf_X9_typed C hs wf_X9_9 dX9_type_25 ?_
      refine J_alen C (dmC hs kc1 (by decide)) (n := 40) 1 rfl (clE_k E s kc1) dX9_type_28 ?_
      refine J_icmp_lt C g26 (rgN 40 (by decide)) (tgt := 35) dX9_type_29 (by decide) (fun q40 => ?_) (fun q40 => ?_)
      · replace h := h.1 q40
        refine J_aload_n C dX9_type_35 rfl 0 rfl ?_
        refine gf_X9_typed C hs wf_X9_9 dX9_type_36 ?_
        refine J_aload_n C dX9_type_39 rfl 0 rfl ?_
        refine gf_X9_typedBytes C hs wf_X9_106 dX9_type_40 (fun g27 => ?_)
        refine J_iload_n C dX9_type_43 rfl 1 rfl ?_
        obtain ⟨g28, h⟩ := h
        refine J_i2b C g28 dX9_type_44 ?_
        obtain ⟨b29, b30, h⟩ := h
        refine J_bast C (wrC hs kc1 (by decide)) (n := 40) (fun z => clE_k E z kc1) (by decide) b29 b30 g28 dX9_type_45 ?_
        obtain ⟨s31, f32⟩ : ∃ z : Sg, z = sI s 1 (gI s 0 1) x1 := ⟨_, rfl⟩
        replace h := h s31 f32
        refine J_sig f32 ?_
        have n33 : gN s31 = gN s := by rw [f32]; exact rfl
        refine J_aload_n C dX9_type_46 rfl 0 rfl ?_
        refine J_dup C dX9_type_47 rfl ?_
        refine gf_X9_typedBytes C hs wf_X9_106 dX9_type_48 (fun g34 => ?_)
        refine J_iconst C dX9_type_51 ?_
        refine J_iadd C dX9_type_52 ?_
        obtain ⟨g37, h⟩ := h
        refine pf_X9_typedBytes C hs wf_X9_106 g37 dX9_type_53 ?_
        obtain ⟨s35, f36⟩ : ∃ z : Sg, z = sI s31 0 1 ((gI s31 0 1) + 1) := ⟨_, rfl⟩
        replace h := h s35 f36
        refine J_sig f36 ?_
        have n38 : gN s35 = gN s := by rw [f36]; exact n33
        refine J_aload_n C dX9_type_56 rfl 0 rfl ?_
        refine gf_X9_typedBytes C hs wf_X9_106 dX9_type_57 (fun g39 => ?_)
        exact J_iret C (Nat.zero_le _) (Nat.zero_le _) dX9_type_60 (by rw [hF]; exact ⟨_, rfl, g39, h, n38⟩)
      · replace h := h.2 q40
        refine J_bipush C dX9_type_32 (by decide) ?_
        exact J_iret C (Nat.zero_le _) (Nat.zero_le _) dX9_type_34 (by rw [hF]; exact ⟨_, rfl, (rgN (-3) (by decide)), h, rfl⟩)
  · replace h := h.1 q42
    refine J_iconst C dX9_type_11 ?_
    exact J_iret C (Nat.zero_le _) (Nat.zero_le _) dX9_type_12 (by rw [hF]; exact ⟨_, rfl, (rgN (-1) (by decide)), h, rfl⟩)
set_option maxHeartbeats 4000000 in
set_option maxRecDepth 100000 in
theorem ct_X9_clear {l : Launch} {E : ET} (hs : eS E = true) {s : Sg} {Q : Int → Sg → Prop} (h : wp_X9_clear s Q) : MetE l E yX9_clear cX9_clear 2 (some .int) rm_X9_clear s [.ref (adE E 0)] (qI Q (gN s)) := by
  refine MetJ (by decide +kernel) (Nat.le_of_ble_eq_true rfl) ?_
  intro F hl C hF
  subst hl
  show JJ F E 0 0 s 0 [(0, .ref (adE E 0))] []
  refine J_aload_n C dX9_clear_0 rfl 0 rfl ?_
  refine gf_X9_typedBytes C hs wf_X9_106 dX9_clear_1 (fun g21 => ?_)
  obtain ⟨x1_4, e22⟩ : ∃ v : Int, v = (gI s 0 1) := ⟨_, rfl⟩
  replace h := h x1_4 e22
  have g1_4 : rgI x1_4 := by rw [e22]; exact g21
  refine J_top e22 ?_
  refine J_istore_n C dX9_clear_4 rfl (by decide) (lv' := [(1, .int (jI x1_4)), (0, .ref (adE E 0))]) rfl ?_
  refine J_aload_n C dX9_clear_5 rfl 1 rfl ?_
  refine J_iconst C dX9_clear_6 ?_
  refine pf_X9_typedBytes C hs wf_X9_106 (rgN 0 (by decide)) dX9_clear_7 ?_
  obtain ⟨s23, f24⟩ : ∃ z : Sg, z = sI s 0 1 0 := ⟨_, rfl⟩
  replace h := h s23 f24
  refine J_sig f24 ?_
  have n25 : gN s23 = gN s := by rw [f24]; exact rfl
  refine J_iload_n C dX9_clear_10 rfl 0 rfl ?_
  exact J_iret C (Nat.zero_le _) (Nat.zero_le _) dX9_clear_11 (by rw [hF]; exact ⟨_, rfl, g1_4, h, n25⟩)
set_option maxHeartbeats 4000000 in
set_option maxRecDepth 100000 in
theorem ct_X9_isTime {l : Launch} {E : ET} (hs : eS E = true) {s : Sg} {x0 : Int} (g0 : rgI x0) {x1 : Int} (g1 : rgI x1) {Q : Int → Prop} (h : wp_X9_isTime x0 x1 s Q) : MetE l E yX9_isTime cX9_isTime 2 (some .boolean) rm_X9_isTime s [.int (jI x0), .int (jI x1)] (qZ (fun r t => Q r ∧ t = s) (gN s)) := by
  refine MetJ (by decide +kernel) (Nat.le_of_ble_eq_true rfl) ?_
  intro F hl C hF
  subst hl
  show JJ F E 0 0 s 0 [(0, .int (jI x0)), (1, .int (jI x1))] []
  refine J_iload_n C dX9_isTime_0 rfl 0 rfl ?_
  refine J_if_lt C g0 (tgt := 20) dX9_isTime_1 (by decide) (fun q23 => ?_) (fun q23 => ?_)
  · replace h := h.1 q23
    refine J_iconst C dX9_isTime_20 ?_
    exact J_zret C (Nat.zero_le _) (Nat.zero_le _) (nar_z (Or.inl rfl)) dX9_isTime_21 (by rw [hF]; exact ⟨_, rfl, (Or.inl rfl), ⟨h, rfl⟩, rfl⟩)
  · replace h := h.2 q23
    refine J_iload_n C dX9_isTime_4 rfl 0 rfl ?_
    refine J_iload_n C dX9_isTime_5 rfl 1 rfl ?_
    refine J_icmp_ge C g0 g1 (tgt := 20) dX9_isTime_6 (by decide) (fun q22 => ?_) (fun q22 => ?_)
    · replace h := h.1 q22
      refine J_iconst C dX9_isTime_20 ?_
      exact J_zret C (Nat.zero_le _) (Nat.zero_le _) (nar_z (Or.inl rfl)) dX9_isTime_21 (by rw [hF]; exact ⟨_, rfl, (Or.inl rfl), ⟨h, rfl⟩, rfl⟩)
    · replace h := h.2 q22
      refine J_iload_n C dX9_isTime_9 rfl 1 rfl ?_
      refine J_sipush C dX9_isTime_10 (by decide) ?_
      refine J_icmp_gt C g1 (rgN 9999 (by decide)) (tgt := 20) dX9_isTime_13 (by decide) (fun q21 => ?_) (fun q21 => ?_)
      · replace h := h.1 q21
        refine J_iconst C dX9_isTime_20 ?_
        exact J_zret C (Nat.zero_le _) (Nat.zero_le _) (nar_z (Or.inl rfl)) dX9_isTime_21 (by rw [hF]; exact ⟨_, rfl, (Or.inl rfl), ⟨h, rfl⟩, rfl⟩)
      · replace h := h.2 q21
        refine J_iconst C dX9_isTime_16 ?_
        refine J_goto C (tgt := 21) dX9_isTime_17 (by decide) ?_
        exact J_zret C (Nat.zero_le _) (Nat.zero_le _) (nar_z (Or.inr rfl)) dX9_isTime_21 (by rw [hF]; exact ⟨_, rfl, (Or.inr rfl), ⟨h, rfl⟩, rfl⟩)
set_option maxHeartbeats 4000000 in
set_option maxRecDepth 100000 in
theorem ct_X9_firstWrongBlank {l : Launch} {E : ET} (hs : eS E = true) {s : Sg} {Q : Int → Prop} (h : wp_X9_firstWrongBlank s Q) : MetE l E yX9_firstWrongBlank cX9_firstWrongBlank 4 (some .int) rm_X9_firstWrongBlank s [.ref (adE E 0)] (qI (fun r t => Q r ∧ t = s) (gN s)) := by
  refine MetJ (by decide +kernel) (Nat.le_of_ble_eq_true rfl) ?_
  intro F hl C hF
  subst hl
  show JJ F E 0 0 s 0 [(0, .ref (adE E 0))] []
  refine J_iconst C dX9_firstWrongBlank_0 ?_
  refine J_istore_n C dX9_firstWrongBlank_1 rfl (by decide) (lv' := [(1, .int (jI 0)), (0, .ref (adE E 0))]) rfl ?_
  refine J_iconst C dX9_firstWrongBlank_2 ?_
  refine J_istore_n C dX9_firstWrongBlank_3 rfl (by decide) (lv' := [(2, .int (jI 0)), (1, .int (jI 0)), (0, .ref (adE E 0))]) rfl ?_
  replace h := h (fun (x1_4 : Int) (x2_4 : Int) => rgI x1_4 → rgI x2_4 → JJ F E 0 0 s 4 [(0, .ref (adE E 0)), (1, .int (jI x1_4)), (2, .int (jI x2_4))] []) (by
    intro x1_4 x2_4 h g1_4 g2_4
    have j67 : ∀ (x2 : Int) (t0 : Int), wj_X9_firstWrongBlank_67 (fun (x1_4 : Int) (x2_4 : Int) => rgI x1_4 → rgI x2_4 → JJ F E 0 0 s 4 [(0, .ref (adE E 0)), (1, .int (jI x1_4)), (2, .int (jI x2_4))] [])  x2 t0 s Q → rgI x2 → rgI t0 → JJ F E 0 0 s 67 [(0, .ref (adE E 0)), (2, .int (jI x2))] [.int (jI t0)] := by
      intro x2 t0 h g2 gt0
      refine J_istore_n C dX9_firstWrongBlank_67 rfl (by decide) (lv' := [(1, .int (jI t0)), (0, .ref (adE E 0)), (2, .int (jI x2))]) rfl ?_
      refine J_iinc C dX9_firstWrongBlank_68 2 rfl (by decide) (lv' := [(2, .int (jI (x2 + 1))), (1, .int (jI t0)), (0, .ref (adE E 0))]) rfl ?_
      refine J_goto C (tgt := 4) dX9_firstWrongBlank_71 (by decide) ?_
      obtain ⟨g25, h⟩ := h
      exact J_sub [2, 1, 0] rfl (h gt0 g25)
    have j58 : ∀ (x2 : Int) (x3 : Int), wj_X9_firstWrongBlank_58 (fun (x1_4 : Int) (x2_4 : Int) => rgI x1_4 → rgI x2_4 → JJ F E 0 0 s 4 [(0, .ref (adE E 0)), (1, .int (jI x1_4)), (2, .int (jI x2_4))] [])  x2 x3 s Q → rgI x2 → rgI x3 → JJ F E 0 0 s 58 [(0, .ref (adE E 0)), (2, .int (jI x2)), (3, .int (jI x3))] [] := by
      intro x2 x3 h g2 g3
      refine J_iload_n C dX9_firstWrongBlank_58 rfl 2 rfl ?_
      refine J_if_ne C g3 (tgt := 66) dX9_firstWrongBlank_59 (by decide) (fun q26 => ?_) (fun q26 => ?_)
      · replace h := h.2 q26
        refine J_iconst C dX9_firstWrongBlank_66 ?_
        exact J_sub [0, 1] rfl (j67 _ _ h g2 (rgN 0 (by decide)))
      · replace h := h.1 q26
        refine J_iconst C dX9_firstWrongBlank_62 ?_
        refine J_goto C (tgt := 67) dX9_firstWrongBlank_63 (by decide) ?_
        exact J_sub [0, 1] rfl (j67 _ _ h g2 (rgN 1 (by decide)))
    have j37 : ∀ (x1 : Int) (x2 : Int) (t0 : Int), wj_X9_firstWrongBlank_37 (fun (x1_4 : Int) (x2_4 : Int) => rgI x1_4 → rgI x2_4 → JJ F E 0 0 s 4 [(0, .ref (adE E 0)), (1, .int (jI x1_4)), (2, .int (jI x2_4))] [])  x1 x2 t0 s Q → rgI x1 → rgI x2 → rgI t0 → JJ F E 0 0 s 37 [(0, .ref (adE E 0)), (1, .int (jI x1)), (2, .int (jI x2))] [.int (jI t0)] := by
      intro x1 x2 t0 h g1 g2 gt0
      refine J_istore_n C dX9_firstWrongBlank_37 rfl (by decide) (lv' := [(3, .int (jI t0)), (0, .ref (adE E 0)), (1, .int (jI x1)), (2, .int (jI x2))]) rfl ?_
      refine J_iload_n C dX9_firstWrongBlank_38 rfl 0 rfl ?_
      refine J_if_eq C gt0 (tgt := 58) dX9_firstWrongBlank_39 (by decide) (fun q31 => ?_) (fun q31 => ?_)
      · replace h := h.1 q31
        exact J_sub [1, 3, 0] rfl (j58 _ _ h g2 gt0)
      · replace h := h.2 q31
        refine J_iload_n C dX9_firstWrongBlank_42 rfl 2 rfl ?_
        refine J_if_eq C g1 (tgt := 56) dX9_firstWrongBlank_43 (by decide) (fun q30 => ?_) (fun q30 => ?_)
        · replace h := h.1 q30
          refine J_iload_n C dX9_firstWrongBlank_56 rfl 3 rfl ?_
          exact J_iret C (Nat.zero_le _) (Nat.zero_le _) dX9_firstWrongBlank_57 (by rw [hF]; exact ⟨_, rfl, g2, ⟨h, rfl⟩, rfl⟩)
        · replace h := h.2 q30
          refine J_iload_n C dX9_firstWrongBlank_46 rfl 3 rfl ?_
          refine J_aload_n C dX9_firstWrongBlank_47 rfl 1 rfl ?_
          refine gf_X9_typedBytes C hs wf_X9_106 dX9_firstWrongBlank_48 (fun g27 => ?_)
          refine J_iconst C dX9_firstWrongBlank_51 ?_
          refine J_isub C dX9_firstWrongBlank_52 ?_
          obtain ⟨g28, h⟩ := h
          refine J_icmp_ne C g2 g28 (tgt := 58) dX9_firstWrongBlank_53 (by decide) (fun q29 => ?_) (fun q29 => ?_)
          · replace h := h.2 q29
            exact J_sub [1, 3, 0] rfl (j58 _ _ h g2 gt0)
          · replace h := h.1 q29
            refine J_iload_n C dX9_firstWrongBlank_56 rfl 3 rfl ?_
            exact J_iret C (Nat.zero_le _) (Nat.zero_le _) dX9_firstWrongBlank_57 (by rw [hF]; exact ⟨_, rfl, g2, ⟨h, rfl⟩, rfl⟩)
    refine J_iload_n C dX9_firstWrongBlank_4 rfl 2 rfl ?_
    refine J_aload_n C dX9_firstWrongBlank_5 rfl 0 rfl ?_
    refine gf_X9_typedBytes C hs wf_X9_106 dX9_firstWrongBlank_6 (fun g21 => ?_)
    refine J_icmp_ge C g2_4 g21 (tgt := 74) dX9_firstWrongBlank_9 (by decide) (fun q34 => ?_) (fun q34 => ?_)
    · replace h := h.1 q34
      refine J_bipush C dX9_firstWrongBlank_74 (by decide) ?_
      exact J_iret C (Nat.zero_le _) (Nat.zero_le _) dX9_firstWrongBlank_76 (by rw [hF]; exact ⟨_, rfl, (rgN (-9) (by decide)), ⟨h, rfl⟩, rfl⟩)
    · replace h := h.2 q34
      refine J_iload_n C dX9_firstWrongBlank_12 rfl 2 rfl ?_
      refine J_aload_n C dX9_firstWrongBlank_13 rfl 0 rfl ?_
      refine gf_X9_typed C hs wf_X9_9 dX9_firstWrongBlank_14 ?_
      refine J_alen C (dmC hs kc1 (by decide)) (n := 40) 1 rfl (clE_k E s kc1) dX9_firstWrongBlank_17 ?_
      refine J_icmp_ge C g2_4 (rgN 40 (by decide)) (tgt := 74) dX9_firstWrongBlank_18 (by decide) (fun q33 => ?_) (fun q33 => ?_)
      · replace h := h.1 q33
        refine J_bipush C dX9_firstWrongBlank_74 (by decide) ?_
        exact J_iret C (Nat.zero_le _) (Nat.zero_le _) dX9_firstWrongBlank_76 (by rw [hF]; exact ⟨_, rfl, (rgN (-9) (by decide)), ⟨h, rfl⟩, rfl⟩)
      · replace h := h.2 q33
        refine J_aload_n C dX9_firstWrongBlank_21 rfl 0 rfl ?_
        refine gf_X9_typed C hs wf_X9_9 dX9_firstWrongBlank_22 ?_
        refine J_iload_n C dX9_firstWrongBlank_25 rfl 2 rfl ?_
        obtain ⟨b22, b23, h⟩ := h
        refine J_bald C (dmC hs kc1 (by decide)) (n := 40) (clE_k E s kc1) (by decide) b22 b23 dX9_firstWrongBlank_26 (fun g24 => ?_)
        refine J_bipush C dX9_firstWrongBlank_27 (by decide) ?_
        refine J_icmp_ne C g24 (rgN 32 (by decide)) (tgt := 36) dX9_firstWrongBlank_29 (by decide) (fun q32 => ?_) (fun q32 => ?_)
        · replace h := h.2 q32
          refine J_iconst C dX9_firstWrongBlank_36 ?_
          exact J_sub [0, 1, 2] rfl (j37 _ _ _ h g1_4 g2_4 (rgN 0 (by decide)))
        · replace h := h.1 q32
          refine J_iconst C dX9_firstWrongBlank_32 ?_
          refine J_goto C (tgt := 37) dX9_firstWrongBlank_33 (by decide) ?_
          exact J_sub [0, 1, 2] rfl (j37 _ _ _ h g1_4 g2_4 (rgN 1 (by decide)))
  )
  exact J_sub [2, 1, 0] rfl (h (rgN 0 (by decide)) (rgN 0 (by decide)))
set_option maxHeartbeats 4000000 in
set_option maxRecDepth 100000 in
theorem ct_X9_subtitle {l : Launch} {E : ET} (hs : eS E = true) {s : Sg} {x1 : Int} (g1 : rgI x1) {x2 : Int} (g2 : rgI x2) {Q : Int → Prop} (h : wp_X9_subtitle x1 x2 s Q) : MetE l E yX9_subtitle cX9_subtitle 4 (some .int) rm_X9_subtitle s [.ref (adE E 0), .int (jI x1), .int (jI x2)] (qI (fun r t => Q r ∧ t = s) (gN s)) := by
  refine MetJ (by decide +kernel) (Nat.le_of_ble_eq_true rfl) ?_
  intro F hl C hF
  subst hl
  show JJ F E 0 0 s 0 [(0, .ref (adE E 0)), (1, .int (jI x1)), (2, .int (jI x2))] []
  refine J_aload_n C dX9_subtitle_0 rfl 0 rfl ?_
  refine gf_X9_now C hs wf_X9_23 dX9_subtitle_1 ?_
  refine gf_X5_track C hs kc4 wf_X9_114 dX9_subtitle_4 ?_
  refine J_iload_n C dX9_subtitle_7 rfl 1 rfl ?_
  refine J_V C (ct_X7_has hs (kd5_track kc4) g1 h) ck_X7_has wm_X9_130 win_X7_has wsel_X7_has (dmC hs (kd5_track kc4) (by decide)) (clE_k E s (kd5_track kc4)) rfl ⟨rfl, rfl⟩ (by decide) (by decide) (As := [.int (jI x1)]) (rest := []) rfl rfl (Nat.le_of_ble_eq_true rfl) dX9_subtitle_8 (J_pZ (fun v21 g23 h => ?_))
  refine J_if_ne C (rg_z g23) (tgt := 16) dX9_subtitle_11 (by decide) (fun q49 => ?_) (fun q49 => ?_)
  · replace h := h.2 q49
    refine J_aload_n C dX9_subtitle_16 rfl 0 rfl ?_
    refine gf_X9_now C hs wf_X9_23 dX9_subtitle_17 ?_
    refine gf_X5_track C hs kc4 wf_X9_114 dX9_subtitle_20 ?_
    refine J_iload_n C dX9_subtitle_23 rfl 1 rfl ?_
    refine J_V C (ct_X7_at hs (kd5_track kc4) g1 h) ck_X7_at wm_X9_137 win_X7_at wsel_X7_at (dmC hs (kd5_track kc4) (by decide)) (clE_k E s (kd5_track kc4)) rfl ⟨rfl, rfl⟩ (by decide) (by decide) (As := [.int (jI x1)]) (rest := []) rfl rfl (Nat.le_of_ble_eq_true rfl) dX9_subtitle_24 (J_pR (fun r25 g27 h => ?_))
    refine J_astore_n C dX9_subtitle_27 rfl (by decide) (lv' := [(3, .ref (adE E r25)), (0, .ref (adE E 0)), (1, .int (jI x1)), (2, .int (jI x2))]) rfl ?_
    refine J_iload_n C dX9_subtitle_28 rfl 3 rfl ?_
    have q29 : (x2 < 0 ∨ 6 < x2) ∨ x2 = 0 ∨ x2 = 1 ∨ x2 = 2 ∨ x2 = 3 ∨ x2 = 4 ∨ x2 = 5 ∨ x2 = 6 := by omega
    rcases q29 with q29 | q29 | q29 | q29 | q29 | q29 | q29 | q29
    · replace h := h.2.2.2.2.2.2.2 q29
      refine J_tswOut C g2 (tgt := 122) dX9_subtitle_29 q29 (by decide) ?_
      refine J_iconst C dX9_subtitle_122 ?_
      exact J_iret C (Nat.zero_le _) (Nat.zero_le _) dX9_subtitle_123 (by rw [hF]; exact ⟨_, rfl, (rgN (-1) (by decide)), ⟨h, rfl⟩, rfl⟩)
    · replace h := h.1 q29
      refine J_tswIn C q29 (rgN 0 (by decide)) (tgt := 72) (off := 43) dX9_subtitle_29 (by decide) (by decide) rfl (by decide) ?_
      refine J_aload_n C dX9_subtitle_72 rfl 0 rfl ?_
      refine gf_X6_first C hs g27 wf_X9_140 dX9_subtitle_73 (fun g30 => ?_)
      exact J_iret C (Nat.zero_le _) (Nat.zero_le _) dX9_subtitle_76 (by rw [hF]; exact ⟨_, rfl, g30, ⟨h, rfl⟩, rfl⟩)
    · replace h := h.2.1 q29
      refine J_tswIn C q29 (rgN 1 (by decide)) (tgt := 77) (off := 48) dX9_subtitle_29 (by decide) (by decide) rfl (by decide) ?_
      refine J_aload_n C dX9_subtitle_77 rfl 0 rfl ?_
      refine gf_X6_end C hs g27 wf_X9_145 dX9_subtitle_78 (fun g31 => ?_)
      exact J_iret C (Nat.zero_le _) (Nat.zero_le _) dX9_subtitle_81 (by rw [hF]; exact ⟨_, rfl, g31, ⟨h, rfl⟩, rfl⟩)
    · replace h := h.2.2.1 q29
      refine J_tswIn C q29 (rgN 2 (by decide)) (tgt := 82) (off := 53) dX9_subtitle_29 (by decide) (by decide) rfl (by decide) ?_
      refine J_aload_n C dX9_subtitle_82 rfl 0 rfl ?_
      refine gf_X6_parts C hs g27 wf_X9_148 dX9_subtitle_83 (fun g32 => ?_)
      exact J_iret C (Nat.zero_le _) (Nat.zero_le _) dX9_subtitle_86 (by rw [hF]; exact ⟨_, rfl, g32, ⟨h, rfl⟩, rfl⟩)
    · replace h := h.2.2.2.1 q29
      refine J_tswIn C q29 (rgN 3 (by decide)) (tgt := 87) (off := 58) dX9_subtitle_29 (by decide) (by decide) rfl (by decide) ?_
      refine J_aload_n C dX9_subtitle_87 rfl 0 rfl ?_
      refine J_V C (ct_X6_characters hs g27 h) ck_X6_characters wm_X9_151 win_X6_characters wsel_X6_characters (dmC hs g27 (by decide)) (clE_k E s g27) rfl ⟨rfl, rfl⟩ (by decide) (by decide) (As := []) (rest := []) rfl rfl (Nat.le_of_ble_eq_true rfl) dX9_subtitle_88 (J_pI (fun v33 g35 h => ?_))
      exact J_iret C (Nat.zero_le _) (Nat.zero_le _) dX9_subtitle_91 (by rw [hF]; exact ⟨_, rfl, g35, ⟨h, rfl⟩, rfl⟩)
    · replace h := h.2.2.2.2.1 q29
      refine J_tswIn C q29 (rgN 4 (by decide)) (tgt := 92) (off := 63) dX9_subtitle_29 (by decide) (by decide) rfl (by decide) ?_
      refine J_aload_n C dX9_subtitle_92 rfl 1 rfl ?_
      refine gf_X9_now C hs wf_X9_23 dX9_subtitle_93 ?_
      refine J_aload_n C dX9_subtitle_96 rfl 0 rfl ?_
      refine J_V C (ct_X5_readingLength hs kc4 g27 h) ck_X5_readingLength wm_X9_154 win_X5_readingLength wsel_X5_readingLength (dmC hs kc4 (by decide)) (clE_k E s kc4) rfl ⟨rfl, rfl⟩ (by decide) (by decide) (As := [.ref (adE E r25)]) (rest := []) rfl rfl (Nat.le_of_ble_eq_true rfl) dX9_subtitle_97 (J_pI (fun v37 g39 h => ?_))
      exact J_iret C (Nat.zero_le _) (Nat.zero_le _) dX9_subtitle_100 (by rw [hF]; exact ⟨_, rfl, g39, ⟨h, rfl⟩, rfl⟩)
    · replace h := h.2.2.2.2.2.1 q29
      refine J_tswIn C q29 (rgN 5 (by decide)) (tgt := 101) (off := 72) dX9_subtitle_29 (by decide) (by decide) rfl (by decide) ?_
      refine J_aload_n C dX9_subtitle_101 rfl 1 rfl ?_
      refine gf_X9_now C hs wf_X9_23 dX9_subtitle_102 ?_
      refine J_iload_n C dX9_subtitle_105 rfl 2 rfl ?_
      refine J_V C (ct_X5_faultsOf hs kc4 g1 h) ck_X5_faultsOf wm_X9_158 win_X5_faultsOf wsel_X5_faultsOf (dmC hs kc4 (by decide)) (clE_k E s kc4) rfl ⟨rfl, rfl⟩ (by decide) (by decide) (As := [.int (jI x1)]) (rest := []) rfl rfl (Nat.le_of_ble_eq_true rfl) dX9_subtitle_106 (J_pI (fun v41 g43 h => ?_))
      exact J_iret C (Nat.zero_le _) (Nat.zero_le _) dX9_subtitle_109 (by rw [hF]; exact ⟨_, rfl, g43, ⟨h, rfl⟩, rfl⟩)
    · replace h := h.2.2.2.2.2.2.1 q29
      refine J_tswIn C q29 (rgN 6 (by decide)) (tgt := 110) (off := 81) dX9_subtitle_29 (by decide) (by decide) rfl (by decide) ?_
      refine J_aload_n C dX9_subtitle_110 rfl 1 rfl ?_
      refine gf_X9_now C hs wf_X9_23 dX9_subtitle_111 ?_
      refine gf_X5_track C hs kc4 wf_X9_114 dX9_subtitle_114 ?_
      refine J_iload_n C dX9_subtitle_117 rfl 2 rfl ?_
      refine J_V C (ct_X7_next hs (kd5_track kc4) g1 h) ck_X7_next wm_X9_161 win_X7_next wsel_X7_next (dmC hs (kd5_track kc4) (by decide)) (clE_k E s (kd5_track kc4)) rfl ⟨rfl, rfl⟩ (by decide) (by decide) (As := [.int (jI x1)]) (rest := []) rfl rfl (Nat.le_of_ble_eq_true rfl) dX9_subtitle_118 (J_pI (fun v45 g47 h => ?_))
      exact J_iret C (Nat.zero_le _) (Nat.zero_le _) dX9_subtitle_121 (by rw [hF]; exact ⟨_, rfl, g47, ⟨h, rfl⟩, rfl⟩)
  · replace h := h.1 q49
    refine J_iconst C dX9_subtitle_14 ?_
    exact J_iret C (Nat.zero_le _) (Nat.zero_le _) dX9_subtitle_15 (by rw [hF]; exact ⟨_, rfl, (rgN (-1) (by decide)), ⟨h, rfl⟩, rfl⟩)
set_option maxHeartbeats 4000000 in
set_option maxRecDepth 100000 in
theorem ct_X9_part {l : Launch} {E : ET} (hs : eS E = true) {s : Sg} {x1 : Int} (g1 : rgI x1) {x2 : Int} (g2 : rgI x2) {x3 : Int} (g3 : rgI x3) {Q : Int → Prop} (h : wp_X9_part x1 x2 x3 s Q) : MetE l E yX9_part cX9_part 7 (some .int) rm_X9_part s [.ref (adE E 0), .int (jI x1), .int (jI x2), .int (jI x3)] (qI (fun r t => Q r ∧ t = s) (gN s)) := by
  refine MetJ (by decide +kernel) (Nat.le_of_ble_eq_true rfl) ?_
  intro F hl C hF
  subst hl
  show JJ F E 0 0 s 0 [(0, .ref (adE E 0)), (1, .int (jI x1)), (2, .int (jI x2)), (3, .int (jI x3))] []
  have j84 : ∀ (x3 : Int) (rt0 : Nat), wj_X9_part_84   x3 rt0 s Q → rgI x3 → okP s rt0 → JJ F E 0 0 s 84 [(0, .ref (adE E 0)), (3, .int (jI x3))] [.ref (adE E rt0)] := by
    intro x3 rt0 h g3 gt0
    refine J_astore C dX9_part_84 (by decide) (lv' := [(5, .ref (adE E rt0)), (0, .ref (adE E 0)), (3, .int (jI x3))]) rfl ?_
    refine J_iload_n C dX9_part_86 rfl 2 rfl ?_
    refine J_bipush C dX9_part_87 (by decide) ?_
    refine J_icmp_lt C g3 (rgN 10 (by decide)) (tgt := 102) dX9_part_89 (by decide) (fun q66 => ?_) (fun q66 => ?_)
    · replace h := h.1 q66
      refine J_iload_n C dX9_part_102 rfl 2 rfl ?_
      refine J_if_ne C g3 (tgt := 112) dX9_part_103 (by decide) (fun q60 => ?_) (fun q60 => ?_)
      · replace h := h.2 q60
        refine J_iload_n C dX9_part_112 rfl 2 rfl ?_
        refine J_iconst C dX9_part_113 ?_
        refine J_icmp_ne C g3 (rgN 1 (by decide)) (tgt := 123) dX9_part_114 (by decide) (fun q58 => ?_) (fun q58 => ?_)
        · replace h := h.2 q58
          refine J_aload C dX9_part_123 0 rfl ?_
          refine J_aload_n C dX9_part_125 rfl 1 rfl ?_
          refine gf_X9_now C hs wf_X9_23 dX9_part_126 ?_
          refine gf_X5_settings C hs kc4 wf_X9_180 dX9_part_129 ?_
          refine J_iconst C dX9_part_132 ?_
          refine J_V C (ct_X3_at hs (kd5_settings kc4) (rgN 4 (by decide)) h) ck_X3_at wm_X9_184 win_X3_at wsel_X3_at (dmC hs (kd5_settings kc4) (by decide)) (clE_k E s (kd5_settings kc4)) rfl ⟨rfl, rfl⟩ (by decide) (by decide) (As := [.int (jI 4)]) (rest := [.ref (adE E rt0)]) rfl rfl (Nat.le_of_ble_eq_true rfl) dX9_part_133 (J_pI (fun v35 g37 h => ?_))
          refine J_V C (ct_X2_brokenAt hs gt0 g37 h) ck_X2_brokenAt wm_X9_187 win_X2_brokenAt wsel_X2_brokenAt (dm_p hs gt0) (clE_k E s gt0.1) rfl ⟨rfl, rfl⟩ (by decide) (by decide) (As := [.int (jI v35)]) (rest := []) rfl rfl (Nat.le_of_ble_eq_true rfl) dX9_part_136 (J_pI (fun v39 g41 h => ?_))
          refine J_istore C dX9_part_139 (by decide) (lv' := [(6, .int (jI v39)), (5, .ref (adE E rt0)), (0, .ref (adE E 0)), (3, .int (jI x3))]) rfl ?_
          refine J_iload_n C dX9_part_141 rfl 3 rfl ?_
          refine J_iconst C dX9_part_142 ?_
          refine J_icmp_ne C g3 (rgN 2 (by decide)) (tgt := 164) dX9_part_143 (by decide) (fun q53 => ?_) (fun q53 => ?_)
          · replace h := h.2 q53
            refine J_iload C dX9_part_164 0 rfl ?_
            refine J_bipush C dX9_part_166 (by decide) ?_
            refine J_icmp_ne C g41 (rgN (-9) (by decide)) (tgt := 176) dX9_part_168 (by decide) (fun q47 => ?_) (fun q47 => ?_)
            · replace h := h.2 q47
              refine J_aload C dX9_part_176 1 rfl ?_
              refine J_iload C dX9_part_178 0 rfl ?_
              refine J_V C (ct_X2_rankOf hs gt0 g41 h) ck_X2_rankOf wm_X9_190 win_X2_rankOf wsel_X2_rankOf (dm_p hs gt0) (clE_k E s gt0.1) rfl ⟨rfl, rfl⟩ (by decide) (by decide) (As := [.int (jI v39)]) (rest := []) rfl rfl (Nat.le_of_ble_eq_true rfl) dX9_part_180 (J_pI (fun v43 g45 h => ?_))
              exact J_iret C (Nat.zero_le _) (Nat.zero_le _) dX9_part_183 (by rw [hF]; exact ⟨_, rfl, g45, ⟨h, rfl⟩, rfl⟩)
            · replace h := h.1 q47
              refine J_bipush C dX9_part_171 (by decide) ?_
              refine J_goto C (tgt := 183) dX9_part_173 (by decide) ?_
              exact J_iret C (Nat.zero_le _) (Nat.zero_le _) dX9_part_183 (by rw [hF]; exact ⟨_, rfl, (rgN (-9) (by decide)), ⟨h, rfl⟩, rfl⟩)
          · replace h := h.1 q53
            refine J_iload C dX9_part_146 0 rfl ?_
            refine J_bipush C dX9_part_148 (by decide) ?_
            refine J_icmp_ne C g41 (rgN (-9) (by decide)) (tgt := 161) dX9_part_150 (by decide) (fun q52 => ?_) (fun q52 => ?_)
            · replace h := h.2 q52
              refine J_iload C dX9_part_161 0 rfl ?_
              exact J_iret C (Nat.zero_le _) (Nat.zero_le _) dX9_part_163 (by rw [hF]; exact ⟨_, rfl, g41, ⟨h, rfl⟩, rfl⟩)
            · replace h := h.1 q52
              refine J_aload C dX9_part_153 1 rfl ?_
              refine J_V C (ct_X2_bytes hs gt0 h) ck_X2_bytes wm_X9_177 win_X2_bytes wsel_X2_bytes (dm_p hs gt0) (clE_k E s gt0.1) rfl ⟨rfl, rfl⟩ (by decide) (by decide) (As := []) (rest := []) rfl rfl (Nat.le_of_ble_eq_true rfl) dX9_part_155 (J_pI (fun v48 g50 h => ?_))
              refine J_goto C (tgt := 163) dX9_part_158 (by decide) ?_
              exact J_iret C (Nat.zero_le _) (Nat.zero_le _) dX9_part_163 (by rw [hF]; exact ⟨_, rfl, g50, ⟨h, rfl⟩, rfl⟩)
        · replace h := h.1 q58
          refine J_aload C dX9_part_117 0 rfl ?_
          refine J_V C (ct_X2_bytes hs gt0 h) ck_X2_bytes wm_X9_177 win_X2_bytes wsel_X2_bytes (dm_p hs gt0) (clE_k E s gt0.1) rfl ⟨rfl, rfl⟩ (by decide) (by decide) (As := []) (rest := []) rfl rfl (Nat.le_of_ble_eq_true rfl) dX9_part_119 (J_pI (fun v54 g56 h => ?_))
          exact J_iret C (Nat.zero_le _) (Nat.zero_le _) dX9_part_122 (by rw [hF]; exact ⟨_, rfl, g56, ⟨h, rfl⟩, rfl⟩)
      · replace h := h.1 q60
        refine J_aload C dX9_part_106 0 rfl ?_
        refine gf_X2_speaker C hs gt0 wf_X9_174 dX9_part_108 (fun g59 => ?_)
        exact J_iret C (Nat.zero_le _) (Nat.zero_le _) dX9_part_111 (by rw [hF]; exact ⟨_, rfl, g59, ⟨h, rfl⟩, rfl⟩)
    · replace h := h.2 q66
      refine J_aload C dX9_part_92 0 rfl ?_
      refine J_iload_n C dX9_part_94 rfl 2 rfl ?_
      refine J_bipush C dX9_part_95 (by decide) ?_
      refine J_isub C dX9_part_97 ?_
      obtain ⟨g61, h⟩ := h
      refine J_V C (ct_X2_byteAt hs gt0 g61 h) ck_X2_byteAt wm_X9_171 win_X2_byteAt wsel_X2_byteAt (dm_p hs gt0) (clE_k E s gt0.1) rfl ⟨rfl, rfl⟩ (by decide) (by decide) (As := [.int (jI (x3 - 10))]) (rest := []) rfl rfl (Nat.le_of_ble_eq_true rfl) dX9_part_98 (J_pI (fun v62 g64 h => ?_))
      exact J_iret C (Nat.zero_le _) (Nat.zero_le _) dX9_part_101 (by rw [hF]; exact ⟨_, rfl, g64, ⟨h, rfl⟩, rfl⟩)
  have j42 : ∀ (x1 : Int) (x2 : Int) (x3 : Int), wj_X9_part_42   x1 x2 x3 s Q → rgI x1 → rgI x2 → rgI x3 → JJ F E 0 0 s 42 [(0, .ref (adE E 0)), (1, .int (jI x1)), (2, .int (jI x2)), (3, .int (jI x3))] [] := by
    intro x1 x2 x3 h g1 g2 g3
    refine J_aload_n C dX9_part_42 rfl 0 rfl ?_
    refine gf_X9_now C hs wf_X9_23 dX9_part_43 ?_
    refine gf_X5_track C hs kc4 wf_X9_114 dX9_part_46 ?_
    refine J_iload_n C dX9_part_49 rfl 1 rfl ?_
    refine J_V C (ct_X7_at hs (kd5_track kc4) g1 h) ck_X7_at wm_X9_137 win_X7_at wsel_X7_at (dmC hs (kd5_track kc4) (by decide)) (clE_k E s (kd5_track kc4)) rfl ⟨rfl, rfl⟩ (by decide) (by decide) (As := [.int (jI x1)]) (rest := []) rfl rfl (Nat.le_of_ble_eq_true rfl) dX9_part_50 (J_pR (fun r29 g31 h => ?_))
    refine J_astore C dX9_part_53 (by decide) (lv' := [(4, .ref (adE E r29)), (0, .ref (adE E 0)), (1, .int (jI x1)), (2, .int (jI x2)), (3, .int (jI x3))]) rfl ?_
    refine J_iload_n C dX9_part_55 rfl 3 rfl ?_
    refine J_aload C dX9_part_56 0 rfl ?_
    refine gf_X6_parts C hs g31 wf_X9_148 dX9_part_58 (fun g33 => ?_)
    refine J_icmp_lt C g2 g33 (tgt := 67) dX9_part_61 (by decide) (fun q69 => ?_) (fun q69 => ?_)
    · replace h := h.1 q69
      refine J_iload_n C dX9_part_67 rfl 3 rfl ?_
      refine J_if_ne C g2 (tgt := 79) dX9_part_68 (by decide) (fun q68 => ?_) (fun q68 => ?_)
      · replace h := h.2 q68
        refine J_aload C dX9_part_79 0 rfl ?_
        refine gf_X6_two C hs g31 wf_X9_168 dX9_part_81 (fun k34 => ?_)
        exact J_sub [1, 4] rfl (j84 _ _ h g3 k34)
      · replace h := h.1 q68
        refine J_aload C dX9_part_71 0 rfl ?_
        refine gf_X6_one C hs g31 wf_X9_164 dX9_part_73 (fun k67 => ?_)
        refine J_goto C (tgt := 84) dX9_part_76 (by decide) ?_
        exact J_sub [1, 4] rfl (j84 _ _ h g3 k67)
    · replace h := h.2 q69
      refine J_bipush C dX9_part_64 (by decide) ?_
      exact J_iret C (Nat.zero_le _) (Nat.zero_le _) dX9_part_66 (by rw [hF]; exact ⟨_, rfl, (rgN (-9) (by decide)), ⟨h, rfl⟩, rfl⟩)
  refine J_aload_n C dX9_part_0 rfl 0 rfl ?_
  refine gf_X9_now C hs wf_X9_23 dX9_part_1 ?_
  refine gf_X5_track C hs kc4 wf_X9_114 dX9_part_4 ?_
  refine J_iload_n C dX9_part_7 rfl 1 rfl ?_
  refine J_V C (ct_X7_has hs (kd5_track kc4) g1 h) ck_X7_has wm_X9_130 win_X7_has wsel_X7_has (dmC hs (kd5_track kc4) (by decide)) (clE_k E s (kd5_track kc4)) rfl ⟨rfl, rfl⟩ (by decide) (by decide) (As := [.int (jI x1)]) (rest := []) rfl rfl (Nat.le_of_ble_eq_true rfl) dX9_part_8 (J_pZ (fun v21 g23 h => ?_))
  refine J_if_eq C (rg_z g23) (tgt := 23) dX9_part_11 (by decide) (fun q74 => ?_) (fun q74 => ?_)
  · replace h := h.1 q74
    refine J_iconst C dX9_part_23 ?_
    exact J_iret C (Nat.zero_le _) (Nat.zero_le _) dX9_part_24 (by rw [hF]; exact ⟨_, rfl, (rgN (-1) (by decide)), ⟨h, rfl⟩, rfl⟩)
  · replace h := h.2 q74
    refine J_iload_n C dX9_part_14 rfl 2 rfl ?_
    refine J_iconst C dX9_part_15 ?_
    refine J_iconst C dX9_part_16 ?_
    refine J_S C (ct_X9_isWithin hs g2 (rgN 0 (by decide)) (rgN 1 (by decide)) h) ck_X9_isWithin wm_X9_41 wst_X9_isWithin ⟨rfl, rfl⟩ (by decide) (by decide) (As := [.int (jI x2), .int (jI 0), .int (jI 1)]) (rest := []) rfl rfl (Nat.le_of_ble_eq_true rfl) dX9_part_17 (J_pZ (fun v25 g27 h => ?_))
    refine J_if_ne C (rg_z g27) (tgt := 25) dX9_part_20 (by decide) (fun q73 => ?_) (fun q73 => ?_)
    · replace h := h.2 q73
      refine J_iload_n C dX9_part_25 rfl 3 rfl ?_
      refine J_if_lt C g3 (tgt := 40) dX9_part_26 (by decide) (fun q72 => ?_) (fun q72 => ?_)
      · replace h := h.1 q72
        refine J_iconst C dX9_part_40 ?_
        exact J_iret C (Nat.zero_le _) (Nat.zero_le _) dX9_part_41 (by rw [hF]; exact ⟨_, rfl, (rgN (-1) (by decide)), ⟨h, rfl⟩, rfl⟩)
      · replace h := h.2 q72
        refine J_iload_n C dX9_part_29 rfl 3 rfl ?_
        refine J_iconst C dX9_part_30 ?_
        refine J_icmp_le C g3 (rgN 3 (by decide)) (tgt := 42) dX9_part_31 (by decide) (fun q71 => ?_) (fun q71 => ?_)
        · replace h := h.1 q71
          exact J_sub [0, 1, 2, 3] rfl (j42 _ _ _ h g1 g2 g3)
        · replace h := h.2 q71
          refine J_iload_n C dX9_part_34 rfl 3 rfl ?_
          refine J_bipush C dX9_part_35 (by decide) ?_
          refine J_icmp_ge C g3 (rgN 10 (by decide)) (tgt := 42) dX9_part_37 (by decide) (fun q70 => ?_) (fun q70 => ?_)
          · replace h := h.1 q70
            exact J_sub [0, 1, 2, 3] rfl (j42 _ _ _ h g1 g2 g3)
          · replace h := h.2 q70
            refine J_iconst C dX9_part_40 ?_
            exact J_iret C (Nat.zero_le _) (Nat.zero_le _) dX9_part_41 (by rw [hF]; exact ⟨_, rfl, (rgN (-1) (by decide)), ⟨h, rfl⟩, rfl⟩)
    · replace h := h.1 q73
      refine J_iconst C dX9_part_23 ?_
      exact J_iret C (Nat.zero_le _) (Nat.zero_le _) dX9_part_24 (by rw [hF]; exact ⟨_, rfl, (rgN (-1) (by decide)), ⟨h, rfl⟩, rfl⟩)
set_option maxHeartbeats 4000000 in
set_option maxRecDepth 100000 in
theorem ct_X9_set {l : Launch} {E : ET} (hs : eS E = true) {s : Sg} {x1 : Int} (g1 : rgI x1) {x2 : Int} (g2 : rgI x2) {Q : Int → Sg → Prop} (h : wp_X9_set x1 x2 s Q) : MetE l E yX9_set cX9_set 4 (some .int) rm_X9_set s [.ref (adE E 0), .int (jI x1), .int (jI x2)] (qI Q (gN s)) := by
  refine MetJ (by decide +kernel) (Nat.le_of_ble_eq_true rfl) ?_
  intro F hl C hF
  subst hl
  show JJ F E 0 0 s 0 [(0, .ref (adE E 0)), (1, .int (jI x1)), (2, .int (jI x2))] []
  refine J_aload_n C dX9_set_0 rfl 0 rfl ?_
  refine gf_X9_now C hs wf_X9_23 dX9_set_1 ?_
  refine gf_X5_settings C hs kc4 wf_X9_180 dX9_set_4 ?_
  refine J_iload_n C dX9_set_7 rfl 1 rfl ?_
  refine J_iload_n C dX9_set_8 rfl 2 rfl ?_
  refine J_V C (ct_X3_takes hs (kd5_settings kc4) g1 g2 h) ck_X3_takes wm_X9_193 win_X3_takes wsel_X3_takes (dmC hs (kd5_settings kc4) (by decide)) (clE_k E s (kd5_settings kc4)) rfl ⟨rfl, rfl⟩ (by decide) (by decide) (As := [.int (jI x1), .int (jI x2)]) (rest := []) rfl rfl (Nat.le_of_ble_eq_true rfl) dX9_set_9 (J_pZ (fun v21 g23 h => ?_))
  refine J_if_ne C (rg_z g23) (tgt := 17) dX9_set_12 (by decide) (fun q39 => ?_) (fun q39 => ?_)
  · replace h := h.2 q39
    refine J_aload_n C dX9_set_17 rfl 0 rfl ?_
    refine gf_X9_history C hs wf_X9_37 dX9_set_18 ?_
    refine J_aload_n C dX9_set_21 rfl 0 rfl ?_
    refine gf_X9_now C hs wf_X9_23 dX9_set_22 ?_
    refine J_V C (ct_X1_record hs kc4 h) ck_X1_record wm_X9_58 win_X1_record wsel_X1_record (dmC hs kc61 (by decide)) (clE_k E s kc61) rfl ⟨rfl, rfl⟩ (by decide) (by decide) (As := [.ref (adE E 4)]) (rest := []) rfl rfl (Nat.le_of_ble_eq_true rfl) dX9_set_25 (J_kV (fun s26 h n28 => ?_))
    have n29 : gN s26 = gN s := n28
    refine J_aload_n C dX9_set_28 rfl 0 rfl ?_
    refine gf_X9_now C hs wf_X9_23 dX9_set_29 ?_
    refine gf_X5_settings C hs kc4 wf_X9_180 dX9_set_32 ?_
    refine J_iload_n C dX9_set_35 rfl 1 rfl ?_
    refine J_V C (ct_X3_at hs (kd5_settings kc4) g1 h) ck_X3_at wm_X9_184 win_X3_at wsel_X3_at (dmC hs (kd5_settings kc4) (by decide)) (clE_k E s26 (kd5_settings kc4)) rfl ⟨rfl, rfl⟩ (by decide) (by decide) (As := [.int (jI x1)]) (rest := []) rfl rfl (Nat.le_of_ble_eq_true rfl) dX9_set_36 (J_pI (fun v30 g32 h => ?_))
    refine J_istore_n C dX9_set_39 rfl (by decide) (lv' := [(3, .int (jI v30)), (0, .ref (adE E 0)), (1, .int (jI x1)), (2, .int (jI x2))]) rfl ?_
    refine J_aload_n C dX9_set_40 rfl 1 rfl ?_
    refine gf_X9_now C hs wf_X9_23 dX9_set_41 ?_
    refine gf_X5_settings C hs kc4 wf_X9_180 dX9_set_44 ?_
    refine J_iload_n C dX9_set_47 rfl 2 rfl ?_
    refine J_iload_n C dX9_set_48 rfl 3 rfl ?_
    refine J_V C (ct_X3_put hs (kd5_settings kc4) g1 g2 h) ck_X3_put wm_X9_196 win_X3_put wsel_X3_put (dmC hs (kd5_settings kc4) (by decide)) (clE_k E s26 (kd5_settings kc4)) rfl ⟨rfl, rfl⟩ (by decide) (by decide) (As := [.int (jI x1), .int (jI x2)]) (rest := []) rfl rfl (Nat.le_of_ble_eq_true rfl) dX9_set_49 (J_kV (fun s35 h n37 => ?_))
    have n38 : gN s35 = gN s := n37.trans (n29)
    refine J_iload_n C dX9_set_52 rfl 0 rfl ?_
    exact J_iret C (Nat.zero_le _) (Nat.zero_le _) dX9_set_53 (by rw [hF]; exact ⟨_, rfl, g32, h, n38⟩)
  · replace h := h.1 q39
    refine J_iconst C dX9_set_15 ?_
    exact J_iret C (Nat.zero_le _) (Nat.zero_le _) dX9_set_16 (by rw [hF]; exact ⟨_, rfl, (rgN (-1) (by decide)), h, rfl⟩)
set_option maxHeartbeats 4000000 in
set_option maxRecDepth 100000 in
theorem ct_X9_conform {l : Launch} {E : ET} (hs : eS E = true) {s : Sg} {x1 : Int} (g1 : rgI x1) {Q : Int → Sg → Prop} (h : wp_X9_conform x1 s Q) : MetE l E yX9_conform cX9_conform 2 (some .int) rm_X9_conform s [.ref (adE E 0), .int (jI x1)] (qI Q (gN s)) := by
  refine MetJ (by decide +kernel) (Nat.le_of_ble_eq_true rfl) ?_
  intro F hl C hF
  subst hl
  show JJ F E 0 0 s 0 [(0, .ref (adE E 0)), (1, .int (jI x1))] []
  refine J_iload_n C dX9_conform_0 rfl 1 rfl ?_
  refine J_iconst C dX9_conform_1 ?_
  refine J_bipush C dX9_conform_2 (by decide) ?_
  refine J_S C (ct_X9_isWithin hs g1 (rgN 1 (by decide)) (rgN 31 (by decide)) h) ck_X9_isWithin wm_X9_41 wst_X9_isWithin ⟨rfl, rfl⟩ (by decide) (by decide) (As := [.int (jI x1), .int (jI 1), .int (jI 31)]) (rest := []) rfl rfl (Nat.le_of_ble_eq_true rfl) dX9_conform_4 (J_pZ (fun v21 g23 h => ?_))
  refine J_if_ne C (rg_z g23) (tgt := 12) dX9_conform_7 (by decide) (fun q45 => ?_) (fun q45 => ?_)
  · replace h := h.2 q45
    refine J_aload_n C dX9_conform_12 rfl 0 rfl ?_
    refine gf_X9_trial C hs wf_X9_30 dX9_conform_13 ?_
    refine J_aload_n C dX9_conform_16 rfl 0 rfl ?_
    refine gf_X9_now C hs wf_X9_23 dX9_conform_17 ?_
    refine J_iload_n C dX9_conform_20 rfl 1 rfl ?_
    refine J_V C (ct_X8_carryOut hs kc4 g1 h) ck_X8_carryOut wm_X9_199 win_X8_carryOut wsel_X8_carryOut (dmC hs kc31 (by decide)) (clE_k E s kc31) rfl ⟨rfl, rfl⟩ (by decide) (by decide) (As := [.ref (adE E 4), .int (jI x1)]) (rest := []) rfl rfl (Nat.le_of_ble_eq_true rfl) dX9_conform_21 (J_kZ (fun v25 s26 g27 h n28 => ?_))
    have n29 : gN s26 = gN s := n28
    refine J_if_ne C (rg_z g27) (tgt := 30) dX9_conform_24 (by decide) (fun q44 => ?_) (fun q44 => ?_)
    · replace h := h.2 q44
      refine J_aload_n C dX9_conform_30 rfl 0 rfl ?_
      refine gf_X9_history C hs wf_X9_37 dX9_conform_31 ?_
      refine J_aload_n C dX9_conform_34 rfl 0 rfl ?_
      refine gf_X9_now C hs wf_X9_23 dX9_conform_35 ?_
      refine J_V C (ct_X1_record hs kc4 h) ck_X1_record wm_X9_58 win_X1_record wsel_X1_record (dmC hs kc61 (by decide)) (clE_k E s26 kc61) rfl ⟨rfl, rfl⟩ (by decide) (by decide) (As := [.ref (adE E 4)]) (rest := []) rfl rfl (Nat.le_of_ble_eq_true rfl) dX9_conform_38 (J_kV (fun s31 h n33 => ?_))
      have n34 : gN s31 = gN s := n33.trans (n29)
      refine J_aload_n C dX9_conform_41 rfl 0 rfl ?_
      refine gf_X9_now C hs wf_X9_23 dX9_conform_42 ?_
      refine J_aload_n C dX9_conform_45 rfl 0 rfl ?_
      refine gf_X9_trial C hs wf_X9_30 dX9_conform_46 ?_
      refine gf_X8_result C hs wf_X9_203 dX9_conform_49 ?_
      refine J_V C (ct_X5_become hs kc4 kc34 h) ck_X5_become wm_X9_206 win_X5_become wsel_X5_become (dmC hs kc4 (by decide)) (clE_k E s31 kc4) rfl ⟨rfl, rfl⟩ (by decide) (by decide) (As := [.ref (adE E 34)]) (rest := []) rfl rfl (Nat.le_of_ble_eq_true rfl) dX9_conform_52 (J_kV (fun s36 h n38 => ?_))
      have n39 : gN s36 = gN s := n38.trans (n34)
      refine J_aload_n C dX9_conform_55 rfl 0 rfl ?_
      refine gf_X9_now C hs wf_X9_23 dX9_conform_56 ?_
      refine gf_X5_track C hs kc4 wf_X9_114 dX9_conform_59 ?_
      refine J_V C (ct_X7_size hs (kd5_track kc4) h) ck_X7_size wm_X9_132 win_X7_size wsel_X7_size (dmC hs (kd5_track kc4) (by decide)) (clE_k E s36 (kd5_track kc4)) rfl ⟨rfl, rfl⟩ (by decide) (by decide) (As := []) (rest := []) rfl rfl (Nat.le_of_ble_eq_true rfl) dX9_conform_62 (J_pI (fun v40 g42 h => ?_))
      exact J_iret C (Nat.zero_le _) (Nat.zero_le _) dX9_conform_65 (by rw [hF]; exact ⟨_, rfl, g42, h, n39⟩)
    · replace h := h.1 q44
      refine J_bipush C dX9_conform_27 (by decide) ?_
      exact J_iret C (Nat.zero_le _) (Nat.zero_le _) dX9_conform_29 (by rw [hF]; exact ⟨_, rfl, (rgN (-3) (by decide)), h, n29⟩)
  · replace h := h.1 q45
    refine J_iconst C dX9_conform_10 ?_
    exact J_iret C (Nat.zero_le _) (Nat.zero_le _) dX9_conform_11 (by rw [hF]; exact ⟨_, rfl, (rgN (-1) (by decide)), h, rfl⟩)
set_option maxHeartbeats 4000000 in
set_option maxRecDepth 100000 in
theorem ct_X9_ifConform {l : Launch} {E : ET} (hs : eS E = true) {s : Sg} {x1 : Int} (g1 : rgI x1) {x2 : Int} (g2 : rgI x2) {Q : Int → Sg → Prop} (h : wp_X9_ifConform x1 x2 s Q) : MetE l E yX9_ifConform cX9_ifConform 3 (some .int) rm_X9_ifConform s [.ref (adE E 0), .int (jI x1), .int (jI x2)] (qI Q (gN s)) := by
  refine MetJ (by decide +kernel) (Nat.le_of_ble_eq_true rfl) ?_
  intro F hl C hF
  subst hl
  show JJ F E 0 0 s 0 [(0, .ref (adE E 0)), (1, .int (jI x1)), (2, .int (jI x2))] []
  refine J_iload_n C dX9_ifConform_0 rfl 1 rfl ?_
  refine J_iconst C dX9_ifConform_1 ?_
  refine J_bipush C dX9_ifConform_2 (by decide) ?_
  refine J_S C (ct_X9_isWithin hs g1 (rgN 1 (by decide)) (rgN 31 (by decide)) h) ck_X9_isWithin wm_X9_41 wst_X9_isWithin ⟨rfl, rfl⟩ (by decide) (by decide) (As := [.int (jI x1), .int (jI 1), .int (jI 31)]) (rest := []) rfl rfl (Nat.le_of_ble_eq_true rfl) dX9_ifConform_4 (J_pZ (fun v21 g23 h => ?_))
  refine J_if_eq C (rg_z g23) (tgt := 19) dX9_ifConform_7 (by decide) (fun q54 => ?_) (fun q54 => ?_)
  · replace h := h.1 q54
    refine J_iconst C dX9_ifConform_19 ?_
    exact J_iret C (Nat.zero_le _) (Nat.zero_le _) dX9_ifConform_20 (by rw [hF]; exact ⟨_, rfl, (rgN (-1) (by decide)), h, rfl⟩)
  · replace h := h.2 q54
    refine J_iload_n C dX9_ifConform_10 rfl 2 rfl ?_
    refine J_iconst C dX9_ifConform_11 ?_
    refine J_iconst C dX9_ifConform_12 ?_
    refine J_S C (ct_X9_isWithin hs g2 (rgN 0 (by decide)) (rgN 4 (by decide)) h) ck_X9_isWithin wm_X9_41 wst_X9_isWithin ⟨rfl, rfl⟩ (by decide) (by decide) (As := [.int (jI x2), .int (jI 0), .int (jI 4)]) (rest := []) rfl rfl (Nat.le_of_ble_eq_true rfl) dX9_ifConform_13 (J_pZ (fun v25 g27 h => ?_))
    refine J_if_ne C (rg_z g27) (tgt := 21) dX9_ifConform_16 (by decide) (fun q53 => ?_) (fun q53 => ?_)
    · replace h := h.2 q53
      refine J_aload_n C dX9_ifConform_21 rfl 0 rfl ?_
      refine gf_X9_trial C hs wf_X9_30 dX9_ifConform_22 ?_
      refine J_aload_n C dX9_ifConform_25 rfl 0 rfl ?_
      refine gf_X9_now C hs wf_X9_23 dX9_ifConform_26 ?_
      refine J_iload_n C dX9_ifConform_29 rfl 1 rfl ?_
      refine J_V C (ct_X8_carryOut hs kc4 g1 h) ck_X8_carryOut wm_X9_199 win_X8_carryOut wsel_X8_carryOut (dmC hs kc31 (by decide)) (clE_k E s kc31) rfl ⟨rfl, rfl⟩ (by decide) (by decide) (As := [.ref (adE E 4), .int (jI x1)]) (rest := []) rfl rfl (Nat.le_of_ble_eq_true rfl) dX9_ifConform_30 (J_kZ (fun v29 s30 g31 h n32 => ?_))
      have n33 : gN s30 = gN s := n32
      refine J_if_ne C (rg_z g31) (tgt := 39) dX9_ifConform_33 (by decide) (fun q52 => ?_) (fun q52 => ?_)
      · replace h := h.2 q52
        refine J_iload_n C dX9_ifConform_39 rfl 2 rfl ?_
        have q34 : (x2 < 0 ∨ 3 < x2) ∨ x2 = 0 ∨ x2 = 1 ∨ x2 = 2 ∨ x2 = 3 := by omega
        rcases q34 with q34 | q34 | q34 | q34 | q34
        · replace h := h.2.2.2.2 q34
          refine J_tswOut C g2 (tgt := 126) dX9_ifConform_40 q34 (by decide) ?_
          refine J_aload_n C dX9_ifConform_126 rfl 0 rfl ?_
          refine gf_X9_trial C hs wf_X9_30 dX9_ifConform_127 ?_
          refine gf_X8_lost C hs wf_X9_218 dX9_ifConform_130 (fun g35 => ?_)
          exact J_iret C (Nat.zero_le _) (Nat.zero_le _) dX9_ifConform_133 (by rw [hF]; exact ⟨_, rfl, g35, h, n33⟩)
        · replace h := h.1 q34
          refine J_tswIn C q34 (rgN 0 (by decide)) (tgt := 72) (off := 32) dX9_ifConform_40 (by decide) (by decide) rfl (by decide) ?_
          refine J_aload_n C dX9_ifConform_72 rfl 0 rfl ?_
          refine gf_X9_trial C hs wf_X9_30 dX9_ifConform_73 ?_
          refine gf_X8_result C hs wf_X9_203 dX9_ifConform_76 ?_
          refine gf_X5_track C hs kc34 wf_X9_114 dX9_ifConform_79 ?_
          refine J_V C (ct_X7_size hs (kd5_track kc34) h) ck_X7_size wm_X9_132 win_X7_size wsel_X7_size (dmC hs (kd5_track kc34) (by decide)) (clE_k E s30 (kd5_track kc34)) rfl ⟨rfl, rfl⟩ (by decide) (by decide) (As := []) (rest := []) rfl rfl (Nat.le_of_ble_eq_true rfl) dX9_ifConform_82 (J_pI (fun v36 g38 h => ?_))
          exact J_iret C (Nat.zero_le _) (Nat.zero_le _) dX9_ifConform_85 (by rw [hF]; exact ⟨_, rfl, g38, h, n33⟩)
        · replace h := h.2.1 q34
          refine J_tswIn C q34 (rgN 1 (by decide)) (tgt := 86) (off := 46) dX9_ifConform_40 (by decide) (by decide) rfl (by decide) ?_
          refine J_aload_n C dX9_ifConform_86 rfl 0 rfl ?_
          refine gf_X9_trial C hs wf_X9_30 dX9_ifConform_87 ?_
          refine gf_X8_result C hs wf_X9_203 dX9_ifConform_90 ?_
          refine gf_X5_track C hs kc34 wf_X9_114 dX9_ifConform_93 ?_
          refine J_V C (ct_X7_allLengths hs (kd5_track kc34) h) ck_X7_allLengths wm_X9_209 win_X7_allLengths wsel_X7_allLengths (dmC hs (kd5_track kc34) (by decide)) (clE_k E s30 (kd5_track kc34)) rfl ⟨rfl, rfl⟩ (by decide) (by decide) (As := []) (rest := []) rfl rfl (Nat.le_of_ble_eq_true rfl) dX9_ifConform_96 (J_pI (fun v40 g42 h => ?_))
          exact J_iret C (Nat.zero_le _) (Nat.zero_le _) dX9_ifConform_99 (by rw [hF]; exact ⟨_, rfl, g42, h, n33⟩)
        · replace h := h.2.2.1 q34
          refine J_tswIn C q34 (rgN 2 (by decide)) (tgt := 100) (off := 60) dX9_ifConform_40 (by decide) (by decide) rfl (by decide) ?_
          refine J_aload_n C dX9_ifConform_100 rfl 0 rfl ?_
          refine gf_X9_trial C hs wf_X9_30 dX9_ifConform_101 ?_
          refine gf_X8_result C hs wf_X9_203 dX9_ifConform_104 ?_
          refine J_iconst C dX9_ifConform_107 ?_
          refine J_V C (ct_X5_countFaulty hs kc34 (rgN 0 (by decide)) h) ck_X5_countFaulty wm_X9_212 win_X5_countFaulty wsel_X5_countFaulty (dmC hs kc34 (by decide)) (clE_k E s30 kc34) rfl ⟨rfl, rfl⟩ (by decide) (by decide) (As := [.int (jI 0)]) (rest := []) rfl rfl (Nat.le_of_ble_eq_true rfl) dX9_ifConform_108 (J_pI (fun v44 g46 h => ?_))
          exact J_iret C (Nat.zero_le _) (Nat.zero_le _) dX9_ifConform_111 (by rw [hF]; exact ⟨_, rfl, g46, h, n33⟩)
        · replace h := h.2.2.2.1 q34
          refine J_tswIn C q34 (rgN 3 (by decide)) (tgt := 112) (off := 72) dX9_ifConform_40 (by decide) (by decide) rfl (by decide) ?_
          refine J_aload_n C dX9_ifConform_112 rfl 0 rfl ?_
          refine gf_X9_trial C hs wf_X9_30 dX9_ifConform_113 ?_
          refine gf_X8_result C hs wf_X9_203 dX9_ifConform_116 ?_
          refine gf_X5_track C hs kc34 wf_X9_114 dX9_ifConform_119 ?_
          refine J_V C (ct_X7_greatestEnd hs (kd5_track kc34) h) ck_X7_greatestEnd wm_X9_215 win_X7_greatestEnd wsel_X7_greatestEnd (dmC hs (kd5_track kc34) (by decide)) (clE_k E s30 (kd5_track kc34)) rfl ⟨rfl, rfl⟩ (by decide) (by decide) (As := []) (rest := []) rfl rfl (Nat.le_of_ble_eq_true rfl) dX9_ifConform_122 (J_pI (fun v48 g50 h => ?_))
          exact J_iret C (Nat.zero_le _) (Nat.zero_le _) dX9_ifConform_125 (by rw [hF]; exact ⟨_, rfl, g50, h, n33⟩)
      · replace h := h.1 q52
        refine J_bipush C dX9_ifConform_36 (by decide) ?_
        exact J_iret C (Nat.zero_le _) (Nat.zero_le _) dX9_ifConform_38 (by rw [hF]; exact ⟨_, rfl, (rgN (-3) (by decide)), h, n33⟩)
    · replace h := h.1 q53
      refine J_iconst C dX9_ifConform_19 ?_
      exact J_iret C (Nat.zero_le _) (Nat.zero_le _) dX9_ifConform_20 (by rw [hF]; exact ⟨_, rfl, (rgN (-1) (by decide)), h, rfl⟩)
set_option maxHeartbeats 4000000 in
set_option maxRecDepth 100000 in
theorem ct_X9_stretches {l : Launch} {E : ET} (hs : eS E = true) {s : Sg} {x1 : Int} (g1 : rgI x1) {Q : Int → Sg → Prop} (h : wp_X9_stretches x1 s Q) : MetE l E yX9_stretches cX9_stretches 2 (some .int) rm_X9_stretches s [.ref (adE E 0), .int (jI x1)] (qI Q (gN s)) := by
  refine MetJ (by decide +kernel) (Nat.le_of_ble_eq_true rfl) ?_
  intro F hl C hF
  subst hl
  show JJ F E 0 0 s 0 [(0, .ref (adE E 0)), (1, .int (jI x1))] []
  refine J_aload_n C dX9_stretches_0 rfl 0 rfl ?_
  refine gf_X9_now C hs wf_X9_23 dX9_stretches_1 ?_
  refine gf_X5_track C hs kc4 wf_X9_114 dX9_stretches_4 ?_
  refine J_iload_n C dX9_stretches_7 rfl 1 rfl ?_
  refine J_V C (ct_X7_has hs (kd5_track kc4) g1 h) ck_X7_has wm_X9_130 win_X7_has wsel_X7_has (dmC hs (kd5_track kc4) (by decide)) (clE_k E s (kd5_track kc4)) rfl ⟨rfl, rfl⟩ (by decide) (by decide) (As := [.int (jI x1)]) (rest := []) rfl rfl (Nat.le_of_ble_eq_true rfl) dX9_stretches_8 (J_pZ (fun v21 g23 h => ?_))
  refine J_if_ne C (rg_z g23) (tgt := 16) dX9_stretches_11 (by decide) (fun q34 => ?_) (fun q34 => ?_)
  · replace h := h.2 q34
    refine J_aload_n C dX9_stretches_16 rfl 0 rfl ?_
    refine gf_X9_trial C hs wf_X9_30 dX9_stretches_17 ?_
    refine J_aload_n C dX9_stretches_20 rfl 0 rfl ?_
    refine gf_X9_now C hs wf_X9_23 dX9_stretches_21 ?_
    refine gf_X5_track C hs kc4 wf_X9_114 dX9_stretches_24 ?_
    refine J_iload_n C dX9_stretches_27 rfl 1 rfl ?_
    refine J_V C (ct_X7_at hs (kd5_track kc4) g1 h) ck_X7_at wm_X9_137 win_X7_at wsel_X7_at (dmC hs (kd5_track kc4) (by decide)) (clE_k E s (kd5_track kc4)) rfl ⟨rfl, rfl⟩ (by decide) (by decide) (As := [.int (jI x1)]) (rest := [.ref (adE E 31)]) rfl rfl (Nat.le_of_ble_eq_true rfl) dX9_stretches_28 (J_pR (fun r25 g27 h => ?_))
    refine J_aload_n C dX9_stretches_31 rfl 0 rfl ?_
    refine gf_X9_now C hs wf_X9_23 dX9_stretches_32 ?_
    refine gf_X5_cut C hs kc4 wf_X9_45 dX9_stretches_35 ?_
    refine J_V C (ct_X8_countStretches hs g27 (kd5_cut kc4) h) ck_X8_countStretches wm_X9_221 win_X8_countStretches wsel_X8_countStretches (dmC hs kc31 (by decide)) (clE_k E s kc31) rfl ⟨rfl, rfl⟩ (by decide) (by decide) (As := [.ref (adE E r25), .ref (adE E (4 + 1))]) (rest := []) rfl rfl (Nat.le_of_ble_eq_true rfl) dX9_stretches_38 (J_kI (fun v29 s30 g31 h n32 => ?_))
    have n33 : gN s30 = gN s := n32
    exact J_iret C (Nat.zero_le _) (Nat.zero_le _) dX9_stretches_41 (by rw [hF]; exact ⟨_, rfl, g31, h, n33⟩)
  · replace h := h.1 q34
    refine J_iconst C dX9_stretches_14 ?_
    exact J_iret C (Nat.zero_le _) (Nat.zero_le _) dX9_stretches_15 (by rw [hF]; exact ⟨_, rfl, (rgN (-1) (by decide)), h, rfl⟩)
set_option maxHeartbeats 4000000 in
set_option maxRecDepth 100000 in
theorem ct_X9_shown {l : Launch} {E : ET} (hs : eS E = true) {s : Sg} {x1 : Int} (g1 : rgI x1) {Q : Int → Prop} (h : wp_X9_shown x1 s Q) : MetE l E yX9_shown cX9_shown 2 (some .int) rm_X9_shown s [.ref (adE E 0), .int (jI x1)] (qI (fun r t => Q r ∧ t = s) (gN s)) := by
  refine MetJ (by decide +kernel) (Nat.le_of_ble_eq_true rfl) ?_
  intro F hl C hF
  subst hl
  show JJ F E 0 0 s 0 [(0, .ref (adE E 0)), (1, .int (jI x1))] []
  refine J_iload_n C dX9_shown_0 rfl 1 rfl ?_
  refine J_iconst C dX9_shown_1 ?_
  refine J_sipush C dX9_shown_2 (by decide) ?_
  refine J_S C (ct_X9_isWithin hs g1 (rgN 0 (by decide)) (rgN 9999 (by decide)) h) ck_X9_isWithin wm_X9_41 wst_X9_isWithin ⟨rfl, rfl⟩ (by decide) (by decide) (As := [.int (jI x1), .int (jI 0), .int (jI 9999)]) (rest := []) rfl rfl (Nat.le_of_ble_eq_true rfl) dX9_shown_5 (J_pZ (fun v21 g23 h => ?_))
  refine J_if_eq C (rg_z g23) (tgt := 25) dX9_shown_8 (by decide) (fun q29 => ?_) (fun q29 => ?_)
  · replace h := h.1 q29
    refine J_iconst C dX9_shown_25 ?_
    exact J_iret C (Nat.zero_le _) (Nat.zero_le _) dX9_shown_26 (by rw [hF]; exact ⟨_, rfl, (rgN (-1) (by decide)), ⟨h, rfl⟩, rfl⟩)
  · replace h := h.2 q29
    refine J_aload_n C dX9_shown_11 rfl 0 rfl ?_
    refine gf_X9_now C hs wf_X9_23 dX9_shown_12 ?_
    refine gf_X5_track C hs kc4 wf_X9_114 dX9_shown_15 ?_
    refine J_iload_n C dX9_shown_18 rfl 1 rfl ?_
    refine J_V C (ct_X7_shownAt hs (kd5_track kc4) g1 h) ck_X7_shownAt wm_X9_225 win_X7_shownAt wsel_X7_shownAt (dmC hs (kd5_track kc4) (by decide)) (clE_k E s (kd5_track kc4)) rfl ⟨rfl, rfl⟩ (by decide) (by decide) (As := [.int (jI x1)]) (rest := []) rfl rfl (Nat.le_of_ble_eq_true rfl) dX9_shown_19 (J_pI (fun v25 g27 h => ?_))
    refine J_goto C (tgt := 26) dX9_shown_22 (by decide) ?_
    exact J_iret C (Nat.zero_le _) (Nat.zero_le _) dX9_shown_26 (by rw [hF]; exact ⟨_, rfl, g27, ⟨h, rfl⟩, rfl⟩)
set_option maxHeartbeats 4000000 in
set_option maxRecDepth 100000 in
theorem ct_X9_faults {l : Launch} {E : ET} (hs : eS E = true) {s : Sg} {x1 : Int} (g1 : rgI x1) {Q : Int → Prop} (h : wp_X9_faults x1 s Q) : MetE l E yX9_faults cX9_faults 2 (some .int) rm_X9_faults s [.ref (adE E 0), .int (jI x1)] (qI (fun r t => Q r ∧ t = s) (gN s)) := by
  refine MetJ (by decide +kernel) (Nat.le_of_ble_eq_true rfl) ?_
  intro F hl C hF
  subst hl
  show JJ F E 0 0 s 0 [(0, .ref (adE E 0)), (1, .int (jI x1))] []
  refine J_iload_n C dX9_faults_0 rfl 1 rfl ?_
  refine J_iconst C dX9_faults_1 ?_
  refine J_bipush C dX9_faults_2 (by decide) ?_
  refine J_S C (ct_X9_isWithin hs g1 (rgN 0 (by decide)) (rgN 32 (by decide)) h) ck_X9_isWithin wm_X9_41 wst_X9_isWithin ⟨rfl, rfl⟩ (by decide) (by decide) (As := [.int (jI x1), .int (jI 0), .int (jI 32)]) (rest := []) rfl rfl (Nat.le_of_ble_eq_true rfl) dX9_faults_4 (J_pZ (fun v21 g23 h => ?_))
  refine J_if_eq C (rg_z g23) (tgt := 18) dX9_faults_7 (by decide) (fun q30 => ?_) (fun q30 => ?_)
  · replace h := h.1 q30
    refine J_iconst C dX9_faults_18 ?_
    exact J_iret C (Nat.zero_le _) (Nat.zero_le _) dX9_faults_19 (by rw [hF]; exact ⟨_, rfl, (rgN (-1) (by decide)), ⟨h, rfl⟩, rfl⟩)
  · replace h := h.2 q30
    refine J_iload_n C dX9_faults_10 rfl 1 rfl ?_
    refine J_bitCount C wm_X9_228 (by decide) (Nat.le_of_ble_eq_true rfl) (by decide) dX9_faults_11 (fun z9 => ?_)
    refine J_iconst C dX9_faults_14 ?_
    refine J_icmp_le C z9 (rgN 1 (by decide)) (tgt := 20) dX9_faults_15 (by decide) (fun q29 => ?_) (fun q29 => ?_)
    · replace h := h.1 q29
      refine J_aload_n C dX9_faults_20 rfl 0 rfl ?_
      refine gf_X9_now C hs wf_X9_23 dX9_faults_21 ?_
      refine J_iload_n C dX9_faults_24 rfl 1 rfl ?_
      refine J_V C (ct_X5_countFaulty hs kc4 g1 h) ck_X5_countFaulty wm_X9_212 win_X5_countFaulty wsel_X5_countFaulty (dmC hs kc4 (by decide)) (clE_k E s kc4) rfl ⟨rfl, rfl⟩ (by decide) (by decide) (As := [.int (jI x1)]) (rest := []) rfl rfl (Nat.le_of_ble_eq_true rfl) dX9_faults_25 (J_pI (fun v25 g27 h => ?_))
      exact J_iret C (Nat.zero_le _) (Nat.zero_le _) dX9_faults_28 (by rw [hF]; exact ⟨_, rfl, g27, ⟨h, rfl⟩, rfl⟩)
    · replace h := h.2 q29
      refine J_iconst C dX9_faults_18 ?_
      exact J_iret C (Nat.zero_le _) (Nat.zero_le _) dX9_faults_19 (by rw [hF]; exact ⟨_, rfl, (rgN (-1) (by decide)), ⟨h, rfl⟩, rfl⟩)
