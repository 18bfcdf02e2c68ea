/-! contracts (printed by wip/whole/gen) -/
set_option maxHeartbeats 4000000 in
set_option maxRecDepth 100000 in
theorem ct_X9_told {l : Launch} {E : ET} (hs : eS E = true) {s : Sg} {x1 : Int} (g1 : rgI x1) {Q : Int → Prop} (h : wp_X9_told x1 s Q) : MetE l E yX9_told cX9_told 2 (some .int) rm_X9_told s [.ref (adE E 0), .int (jI x1)] (qI (fun r t => Q r ∧ t = s) (gN s)) := by
  refine MetJ (by decide +kernel) (Nat.le_of_ble_eq_true rfl) ?_
  intro F hl C hF
  subst hl
  show JJ F E 0 0 s 0 [(0, .ref (adE E 0)), (1, .int (jI x1))] []
  have j21 : ∀ (x1 : Int), wj_X9_told_21   x1 s Q → rgI x1 → JJ F E 0 0 s 21 [(0, .ref (adE E 0)), (1, .int (jI x1))] [] := by
    intro x1 h g1
    refine J_iload_n C dX9_told_21 rfl 1 rfl ?_
    have q21 : (x1 < 5 ∨ 11 < x1) ∨ x1 = 5 ∨ x1 = 6 ∨ x1 = 7 ∨ x1 = 8 ∨ x1 = 9 ∨ x1 = 10 ∨ x1 = 11 := by omega
    rcases q21 with q21 | q21 | q21 | q21 | q21 | q21 | q21 | q21
    · replace h := h.2.2.2.2.2.2.2 q21
      refine J_tswOut C g1 (tgt := 132) dX9_told_22 q21 (by decide) ?_
      refine J_iconst C dX9_told_132 ?_
      exact J_iret C (Nat.zero_le _) (Nat.zero_le _) dX9_told_133 (by rw [hF]; exact ⟨_, rfl, (rgN (-1) (by decide)), ⟨h, rfl⟩, rfl⟩)
    · replace h := h.1 q21
      refine J_tswIn C q21 (rgN 5 (by decide)) (tgt := 64) (off := 42) dX9_told_22 (by decide) (by decide) rfl (by decide) ?_
      refine J_aload_n C dX9_told_64 rfl 0 rfl ?_
      refine gf_X9_now C hs wf_X9_23 dX9_told_65 ?_
      refine gf_X5_cut C hs kc4 wf_X9_45 dX9_told_68 ?_
      refine J_V C (ct_X0_size hs (kd5_cut kc4) h) ck_X0_size wm_X9_49 win_X0_size wsel_X0_size (dmC hs (kd5_cut kc4) (by decide)) (clE_k E s (kd5_cut kc4)) rfl ⟨rfl, rfl⟩ (by decide) (by decide) (As := []) (rest := []) rfl rfl (Nat.le_of_ble_eq_true rfl) dX9_told_71 (J_pI (fun v22 g24 h => ?_))
      exact J_iret C (Nat.zero_le _) (Nat.zero_le _) dX9_told_74 (by rw [hF]; exact ⟨_, rfl, g24, ⟨h, rfl⟩, rfl⟩)
    · replace h := h.2.1 q21
      refine J_tswIn C q21 (rgN 6 (by decide)) (tgt := 75) (off := 53) dX9_told_22 (by decide) (by decide) rfl (by decide) ?_
      refine J_aload_n C dX9_told_75 rfl 0 rfl ?_
      refine gf_X9_now C hs wf_X9_23 dX9_told_76 ?_
      refine gf_X5_cut C hs kc4 wf_X9_45 dX9_told_79 ?_
      refine J_V C (ct_X0_frames hs (kd5_cut kc4) h) ck_X0_frames wm_X9_55 win_X0_frames wsel_X0_frames (dmC hs (kd5_cut kc4) (by decide)) (clE_k E s (kd5_cut kc4)) rfl ⟨rfl, rfl⟩ (by decide) (by decide) (As := []) (rest := []) rfl rfl (Nat.le_of_ble_eq_true rfl) dX9_told_82 (J_pI (fun v26 g28 h => ?_))
      exact J_iret C (Nat.zero_le _) (Nat.zero_le _) dX9_told_85 (by rw [hF]; exact ⟨_, rfl, g28, ⟨h, rfl⟩, rfl⟩)
    · replace h := h.2.2.1 q21
      refine J_tswIn C q21 (rgN 7 (by decide)) (tgt := 86) (off := 64) dX9_told_22 (by decide) (by decide) rfl (by decide) ?_
      refine J_aload_n C dX9_told_86 rfl 0 rfl ?_
      refine gf_X9_now C hs wf_X9_23 dX9_told_87 ?_
      refine gf_X5_shots C hs kc4 wf_X9_84 dX9_told_90 ?_
      refine J_V C (ct_X4_size hs (kd5_shots kc4) h) ck_X4_size wm_X9_91 win_X4_size wsel_X4_size (dmC hs (kd5_shots kc4) (by decide)) (clE_k E s (kd5_shots kc4)) rfl ⟨rfl, rfl⟩ (by decide) (by decide) (As := []) (rest := []) rfl rfl (Nat.le_of_ble_eq_true rfl) dX9_told_93 (J_pI (fun v30 g32 h => ?_))
      exact J_iret C (Nat.zero_le _) (Nat.zero_le _) dX9_told_96 (by rw [hF]; exact ⟨_, rfl, g32, ⟨h, rfl⟩, rfl⟩)
    · replace h := h.2.2.2.1 q21
      refine J_tswIn C q21 (rgN 8 (by decide)) (tgt := 97) (off := 75) dX9_told_22 (by decide) (by decide) rfl (by decide) ?_
      refine J_aload_n C dX9_told_97 rfl 0 rfl ?_
      refine gf_X9_now C hs wf_X9_23 dX9_told_98 ?_
      refine gf_X5_track C hs kc4 wf_X9_114 dX9_told_101 ?_
      refine J_V C (ct_X7_size hs (kd5_track kc4) h) ck_X7_size wm_X9_132 win_X7_size wsel_X7_size (dmC hs (kd5_track kc4) (by decide)) (clE_k E s (kd5_track kc4)) rfl ⟨rfl, rfl⟩ (by decide) (by decide) (As := []) (rest := []) rfl rfl (Nat.le_of_ble_eq_true rfl) dX9_told_104 (J_pI (fun v34 g36 h => ?_))
      exact J_iret C (Nat.zero_le _) (Nat.zero_le _) dX9_told_107 (by rw [hF]; exact ⟨_, rfl, g36, ⟨h, rfl⟩, rfl⟩)
    · replace h := h.2.2.2.2.1 q21
      refine J_tswIn C q21 (rgN 9 (by decide)) (tgt := 108) (off := 86) dX9_told_22 (by decide) (by decide) rfl (by decide) ?_
      refine J_aload_n C dX9_told_108 rfl 0 rfl ?_
      refine gf_X9_now C hs wf_X9_23 dX9_told_109 ?_
      refine gf_X5_track C hs kc4 wf_X9_114 dX9_told_112 ?_
      refine J_V C (ct_X7_countPairs hs (kd5_track kc4) h) ck_X7_countPairs wm_X9_233 win_X7_countPairs wsel_X7_countPairs (dmC hs (kd5_track kc4) (by decide)) (clE_k E s (kd5_track kc4)) rfl ⟨rfl, rfl⟩ (by decide) (by decide) (As := []) (rest := []) rfl rfl (Nat.le_of_ble_eq_true rfl) dX9_told_115 (J_pI (fun v38 g40 h => ?_))
      exact J_iret C (Nat.zero_le _) (Nat.zero_le _) dX9_told_118 (by rw [hF]; exact ⟨_, rfl, g40, ⟨h, rfl⟩, rfl⟩)
    · replace h := h.2.2.2.2.2.1 q21
      refine J_tswIn C q21 (rgN 10 (by decide)) (tgt := 119) (off := 97) dX9_told_22 (by decide) (by decide) rfl (by decide) ?_
      refine J_aload_n C dX9_told_119 rfl 0 rfl ?_
      refine gf_X9_typedBytes C hs wf_X9_106 dX9_told_120 (fun g42 => ?_)
      exact J_iret C (Nat.zero_le _) (Nat.zero_le _) dX9_told_123 (by rw [hF]; exact ⟨_, rfl, g42, ⟨h, rfl⟩, rfl⟩)
    · replace h := h.2.2.2.2.2.2.1 q21
      refine J_tswIn C q21 (rgN 11 (by decide)) (tgt := 124) (off := 102) dX9_told_22 (by decide) (by decide) rfl (by decide) ?_
      refine J_aload_n C dX9_told_124 rfl 0 rfl ?_
      refine gf_X9_history C hs wf_X9_37 dX9_told_125 ?_
      refine J_V C (ct_X1_size hs h) ck_X1_size wm_X9_236 win_X1_size wsel_X1_size (dmC hs kc61 (by decide)) (clE_k E s kc61) rfl ⟨rfl, rfl⟩ (by decide) (by decide) (As := []) (rest := []) rfl rfl (Nat.le_of_ble_eq_true rfl) dX9_told_128 (J_pI (fun v43 g45 h => ?_))
      exact J_iret C (Nat.zero_le _) (Nat.zero_le _) dX9_told_131 (by rw [hF]; exact ⟨_, rfl, g45, ⟨h, rfl⟩, rfl⟩)
  refine J_iload_n C dX9_told_0 rfl 1 rfl ?_
  refine J_if_lt C g1 (tgt := 21) dX9_told_1 (by decide) (fun q52 => ?_) (fun q52 => ?_)
  · replace h := h.1 q52
    exact J_sub [0, 1] rfl (j21 _ h g1)
  · replace h := h.2 q52
    refine J_iload_n C dX9_told_4 rfl 1 rfl ?_
    refine J_iconst C dX9_told_5 ?_
    refine J_icmp_gt C g1 (rgN 4 (by decide)) (tgt := 21) dX9_told_6 (by decide) (fun q51 => ?_) (fun q51 => ?_)
    · replace h := h.1 q51
      exact J_sub [0, 1] rfl (j21 _ h g1)
    · replace h := h.2 q51
      refine J_aload_n C dX9_told_9 rfl 0 rfl ?_
      refine gf_X9_now C hs wf_X9_23 dX9_told_10 ?_
      refine gf_X5_settings C hs kc4 wf_X9_180 dX9_told_13 ?_
      refine J_iload_n C dX9_told_16 rfl 1 rfl ?_
      refine J_V C (ct_X3_at hs (kd5_settings kc4) g1 h) ck_X3_at wm_X9_184 win_X3_at wsel_X3_at (dmC hs (kd5_settings kc4) (by decide)) (clE_k E s (kd5_settings kc4)) rfl ⟨rfl, rfl⟩ (by decide) (by decide) (As := [.int (jI x1)]) (rest := []) rfl rfl (Nat.le_of_ble_eq_true rfl) dX9_told_17 (J_pI (fun v47 g49 h => ?_))
      exact J_iret C (Nat.zero_le _) (Nat.zero_le _) dX9_told_20 (by rw [hF]; exact ⟨_, rfl, g49, ⟨h, rfl⟩, rfl⟩)
set_option maxHeartbeats 4000000 in
set_option maxRecDepth 100000 in
theorem ct_X9_undo {l : Launch} {E : ET} (hs : eS E = true) {s : Sg} {Q : Int → Sg → Prop} (h : wp_X9_undo s Q) : MetE l E yX9_undo cX9_undo 1 (some .int) rm_X9_undo s [.ref (adE E 0)] (qI Q (gN s)) := by
  refine MetJ (by decide +kernel) (Nat.le_of_ble_eq_true rfl) ?_
  intro F hl C hF
  subst hl
  show JJ F E 0 0 s 0 [(0, .ref (adE E 0))] []
  refine J_aload_n C dX9_undo_0 rfl 0 rfl ?_
  refine gf_X9_history C hs wf_X9_37 dX9_undo_1 ?_
  refine J_V C (ct_X1_size hs h) ck_X1_size wm_X9_236 win_X1_size wsel_X1_size (dmC hs kc61 (by decide)) (clE_k E s kc61) rfl ⟨rfl, rfl⟩ (by decide) (by decide) (As := []) (rest := []) rfl rfl (Nat.le_of_ble_eq_true rfl) dX9_undo_4 (J_pI (fun v21 g23 h => ?_))
  refine J_if_ne C g23 (tgt := 13) dX9_undo_7 (by decide) (fun q34 => ?_) (fun q34 => ?_)
  · replace h := h.2 q34
    refine J_aload_n C dX9_undo_13 rfl 0 rfl ?_
    refine gf_X9_history C hs wf_X9_37 dX9_undo_14 ?_
    refine J_aload_n C dX9_undo_17 rfl 0 rfl ?_
    refine gf_X9_now C hs wf_X9_23 dX9_undo_18 ?_
    refine J_V C (ct_X1_restore hs kc4 h) ck_X1_restore wm_X9_237 win_X1_restore wsel_X1_restore (dmC hs kc61 (by decide)) (clE_k E s kc61) rfl ⟨rfl, rfl⟩ (by decide) (by decide) (As := [.ref (adE E 4)]) (rest := []) rfl rfl (Nat.le_of_ble_eq_true rfl) dX9_undo_21 (J_kV (fun s26 h n28 => ?_))
    have n29 : gN s26 = gN s := n28
    refine J_aload_n C dX9_undo_24 rfl 0 rfl ?_
    refine gf_X9_history C hs wf_X9_37 dX9_undo_25 ?_
    refine J_V C (ct_X1_size hs h) ck_X1_size wm_X9_236 win_X1_size wsel_X1_size (dmC hs kc61 (by decide)) (clE_k E s26 kc61) rfl ⟨rfl, rfl⟩ (by decide) (by decide) (As := []) (rest := []) rfl rfl (Nat.le_of_ble_eq_true rfl) dX9_undo_28 (J_pI (fun v30 g32 h => ?_))
    exact J_iret C (Nat.zero_le _) (Nat.zero_le _) dX9_undo_31 (by rw [hF]; exact ⟨_, rfl, g32, h, n29⟩)
  · replace h := h.1 q34
    refine J_bipush C dX9_undo_10 (by decide) ?_
    exact J_iret C (Nat.zero_le _) (Nat.zero_le _) dX9_undo_12 (by rw [hF]; exact ⟨_, rfl, (rgN (-2) (by decide)), h, rfl⟩)
