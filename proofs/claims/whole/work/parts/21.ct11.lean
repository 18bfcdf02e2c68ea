/-! contracts (printed by wip/whole/gen) -/
set_option maxHeartbeats 4000000 in
set_option maxRecDepth 100000 in
theorem ct_X10_move {l : Launch} {E : ET} (hs : eS E = false) {s : Sg} {x1 : Int} (g1 : rgI x1) {x2 : Int} (g2 : rgI x2) {x3 : Int} (g3 : rgI x3) {Q : Int → Sg → Prop} (h : wp_X10_move x1 x2 x3 s Q) : MetE l E yX10_move cX10_move 6 (some .int) rm_X10_move s [.ref (adE E 279), .int (jI x1), .int (jI x2), .int (jI x3)] (qI Q (gN s)) := by
  refine MetJ (by decide +kernel) (Nat.le_of_ble_eq_true rfl) ?_
  intro F hl C hF
  subst hl
  show JJ F E 0 0 s 0 [(0, .ref (adE E 279)), (1, .int (jI x1)), (2, .int (jI x2)), (3, .int (jI x3))] []
  refine J_aload_n C dX10_move_0 rfl 0 rfl ?_
  refine J_iload_n C dX10_move_1 rfl 1 rfl ?_
  refine J_V C (ct_X10_isSubtitle hs g1 h) ck_X10_isSubtitle wm_X10_190 win_X10_isSubtitle wsel_X10_isSubtitle (dmM hs kc279 (by decide)) (clE_k E s kc279) rfl ⟨rfl, rfl⟩ (by decide) (by decide) (As := [.int (jI x1)]) (rest := []) rfl rfl (Nat.le_of_ble_eq_true rfl) dX10_move_2 (J_pZ (fun v21 g23 h => ?_))
  refine J_if_eq C (rg_z g23) (tgt := 16) dX10_move_5 (by decide) (fun q76 => ?_) (fun q76 => ?_)
  · replace h := h.1 q76
    refine J_iconst C dX10_move_16 ?_
    exact J_iret C (Nat.zero_le _) (Nat.zero_le _) dX10_move_17 (by rw [hF]; exact ⟨_, rfl, (rgN (-1) (by decide)), h, rfl⟩)
  · replace h := h.2 q76
    refine J_iload_n C dX10_move_8 rfl 2 rfl ?_
    refine J_iload_n C dX10_move_9 rfl 3 rfl ?_
    refine J_S C (ct_X10_areTimes hs g2 g3 h) ck_X10_areTimes wm_X10_177 wst_X10_areTimes ⟨rfl, rfl⟩ (by decide) (by decide) (As := [.int (jI x2), .int (jI x3)]) (rest := []) rfl rfl (Nat.le_of_ble_eq_true rfl) dX10_move_10 (J_pZ (fun v25 g27 h => ?_))
    refine J_if_ne C (rg_z g27) (tgt := 18) dX10_move_13 (by decide) (fun q75 => ?_) (fun q75 => ?_)
    · replace h := h.2 q75
      refine J_aload_n C dX10_move_18 rfl 0 rfl ?_
      refine J_V C (ct_X10_records hs h) ck_X10_records wm_X10_68 win_X10_records wsel_X10_records (dmM hs kc279 (by decide)) (clE_k E s kc279) rfl ⟨rfl, rfl⟩ (by decide) (by decide) (As := []) (rest := []) rfl rfl (Nat.le_of_ble_eq_true rfl) dX10_move_19 (J_kV (fun s30 h n32 => ?_))
      have n33 : gN s30 = gN s := n32
      refine J_aload_n C dX10_move_22 rfl 0 rfl ?_
      refine J_V C (ct_X10_takes hs h) ck_X10_takes wm_X10_155 win_X10_takes wsel_X10_takes (dmM hs kc279 (by decide)) (clE_k E s30 kc279) rfl ⟨rfl, rfl⟩ (by decide) (by decide) (As := []) (rest := []) rfl rfl (Nat.le_of_ble_eq_true rfl) dX10_move_23 (J_kV (fun s35 h n37 => ?_))
      have n38 : gN s35 = gN s := n37.trans (n33)
      refine J_aload_n C dX10_move_26 rfl 0 rfl ?_
      refine gf_X10_many C hs wf_X10_84 dX10_move_27 (fun g39 => ?_)
      obtain ⟨x4_30, e40⟩ : ∃ v : Int, v = (gI s35 279 9) := ⟨_, rfl⟩
      replace h := h x4_30 e40
      have g4_30 : rgI x4_30 := by rw [e40]; exact g39
      refine J_top e40 ?_
      refine J_istore C dX10_move_30 (by decide) (lv' := [(4, .int (jI x4_30)), (0, .ref (adE E 279)), (1, .int (jI x1)), (2, .int (jI x2)), (3, .int (jI x3))]) rfl ?_
      refine J_aload_n C dX10_move_32 rfl 1 rfl ?_
      refine J_V C (ct_X10_empties hs h) ck_X10_empties wm_X10_139 win_X10_empties wsel_X10_empties (dmM hs kc279 (by decide)) (clE_k E s35 kc279) rfl ⟨rfl, rfl⟩ (by decide) (by decide) (As := []) (rest := []) rfl rfl (Nat.le_of_ble_eq_true rfl) dX10_move_33 (J_kV (fun s42 h n44 => ?_))
      have n45 : gN s42 = gN s := n44.trans (n38)
      refine J_iconst C dX10_move_36 ?_
      refine J_istore C dX10_move_37 (by decide) (lv' := [(5, .int (jI 0)), (4, .int (jI x4_30)), (0, .ref (adE E 279)), (1, .int (jI x1)), (2, .int (jI x2)), (3, .int (jI x3))]) rfl ?_
      replace h := h (fun (x5_39 : Int) (sL39 : Sg) => rgI x5_39 → gN sL39 = gN s → JJ F E 0 0 sL39 39 [(0, .ref (adE E 279)), (1, .int (jI x1)), (2, .int (jI x2)), (3, .int (jI x3)), (4, .int (jI x4_30)), (5, .int (jI x5_39))] []) (by
        intro x5_39 sL39 h g5_39 nL39
        have j72 : ∀ (x5 : Int) (sj : Sg), wj_X10_move_72 (fun (x5_39 : Int) (sL39 : Sg) => rgI x5_39 → gN sL39 = gN s → JJ F E 0 0 sL39 39 [(0, .ref (adE E 279)), (1, .int (jI x1)), (2, .int (jI x2)), (3, .int (jI x3)), (4, .int (jI x4_30)), (5, .int (jI x5_39))] []) x1 x2 x3 x4_30 x5 sj Q → rgI x5 → gN sj = gN s → JJ F E 0 0 sj 72 [(0, .ref (adE E 279)), (1, .int (jI x1)), (2, .int (jI x2)), (3, .int (jI x3)), (4, .int (jI x4_30)), (5, .int (jI x5))] [] := by
          intro x5 sj h g5 nj
          refine J_iinc C dX10_move_72 5 rfl (by decide) (lv' := [(5, .int (jI (x5 + 1))), (0, .ref (adE E 279)), (1, .int (jI x1)), (2, .int (jI x2)), (3, .int (jI x3)), (4, .int (jI x4_30))]) rfl ?_
          refine J_goto C (tgt := 39) dX10_move_75 (by decide) ?_
          obtain ⟨g61, h⟩ := h
          exact J_sub [1, 2, 3, 4, 5, 0] rfl (h g61 nj)
        refine J_iload C dX10_move_39 5 rfl ?_
        refine J_iload C dX10_move_41 4 rfl ?_
        refine J_icmp_ge C g5_39 g4_30 (tgt := 78) dX10_move_43 (by decide) (fun q74 => ?_) (fun q74 => ?_)
        · replace h := h.1 q74
          refine J_aload_n C dX10_move_78 rfl 0 rfl ?_
          refine J_iload_n C dX10_move_79 rfl 2 rfl ?_
          refine J_iload_n C dX10_move_80 rfl 3 rfl ?_
          refine J_iload_n C dX10_move_81 rfl 1 rfl ?_
          refine J_V C (ct_X10_inserts hs g2 g3 g1 h) ck_X10_inserts wm_X10_135 win_X10_inserts wsel_X10_inserts (dmM hs kc279 (by decide)) (clE_k E sL39 kc279) rfl ⟨rfl, rfl⟩ (by decide) (by decide) (As := [.int (jI x2), .int (jI x3), .int (jI x1)]) (rest := []) rfl rfl (Nat.le_of_ble_eq_true rfl) dX10_move_82 (J_kV (fun s47 h n49 => ?_))
          have n50 : gN s47 = gN s := n49.trans (nL39)
          refine J_aload_n C dX10_move_85 rfl 0 rfl ?_
          refine J_V C (ct_X10_lays hs h) ck_X10_lays wm_X10_184 win_X10_lays wsel_X10_lays (dmM hs kc279 (by decide)) (clE_k E s47 kc279) rfl ⟨rfl, rfl⟩ (by decide) (by decide) (As := []) (rest := []) rfl rfl (Nat.le_of_ble_eq_true rfl) dX10_move_86 (J_kV (fun s52 h n54 => ?_))
          have n55 : gN s52 = gN s := n54.trans (n50)
          refine J_aload_n C dX10_move_89 rfl 0 rfl ?_
          refine J_iconst C dX10_move_90 ?_
          refine J_iload_n C dX10_move_91 rfl 1 rfl ?_
          refine J_imul C dX10_move_92 ?_
          obtain ⟨g56, h⟩ := h
          refine J_V C (ct_X10_placeOf hs g56 h) ck_X10_placeOf wm_X10_187 win_X10_placeOf wsel_X10_placeOf (dmM hs kc279 (by decide)) (clE_k E s52 kc279) rfl ⟨rfl, rfl⟩ (by decide) (by decide) (As := [.int (jI (2 * x1))]) (rest := []) rfl rfl (Nat.le_of_ble_eq_true rfl) dX10_move_93 (J_pI (fun v57 g59 h => ?_))
          exact J_iret C (Nat.zero_le _) (Nat.zero_le _) dX10_move_96 (by rw [hF]; exact ⟨_, rfl, g59, h, n55⟩)
        · replace h := h.2 q74
          refine J_iload C dX10_move_46 5 rfl ?_
          refine J_iload_n C dX10_move_48 rfl 1 rfl ?_
          refine J_icmp_eq C g5_39 g1 (tgt := 72) dX10_move_49 (by decide) (fun q73 => ?_) (fun q73 => ?_)
          · replace h := h.1 q73
            exact J_sub [0, 1, 2, 3, 4, 5] rfl (j72 _ _ h g5_39 nL39)
          · replace h := h.2 q73
            refine J_aload_n C dX10_move_52 rfl 0 rfl ?_
            refine J_aload_n C dX10_move_53 rfl 0 rfl ?_
            refine gf_X10_oldBegins C hs wf_X10_31 dX10_move_54 ?_
            refine J_iload C dX10_move_57 5 rfl ?_
            obtain ⟨b62, b63, h⟩ := h
            refine J_iald C (dmM hs kc287 (by decide)) (n := 16) (clE_k E sL39 kc287) (by decide) b62 b63 dX10_move_59 (fun g64 => ?_)
            refine J_aload_n C dX10_move_60 rfl 0 rfl ?_
            refine gf_X10_oldEnds C hs wf_X10_34 dX10_move_61 ?_
            refine J_iload C dX10_move_64 5 rfl ?_
            obtain ⟨b65, b66, h⟩ := h
            refine J_iald C (dmM hs kc288 (by decide)) (n := 16) (clE_k E sL39 kc288) (by decide) b65 b66 dX10_move_66 (fun g67 => ?_)
            refine J_iload C dX10_move_67 5 rfl ?_
            refine J_V C (ct_X10_inserts hs g64 g67 g5_39 h) ck_X10_inserts wm_X10_135 win_X10_inserts wsel_X10_inserts (dmM hs kc279 (by decide)) (clE_k E sL39 kc279) rfl ⟨rfl, rfl⟩ (by decide) (by decide) (As := [.int (jI (gI sL39 287 x5_39)), .int (jI (gI sL39 288 x5_39)), .int (jI x5_39)]) (rest := []) rfl rfl (Nat.le_of_ble_eq_true rfl) dX10_move_69 (J_kV (fun s69 h n71 => ?_))
            have n72 : gN s69 = gN s := n71.trans (nL39)
            exact J_sub [0, 1, 2, 3, 4, 5] rfl (j72 _ _ h g5_39 n72)
      )
      exact J_sub [2, 3, 4, 5, 1, 0] rfl (h (rgN 0 (by decide)) n45)
    · replace h := h.1 q75
      refine J_iconst C dX10_move_16 ?_
      exact J_iret C (Nat.zero_le _) (Nat.zero_le _) dX10_move_17 (by rw [hF]; exact ⟨_, rfl, (rgN (-1) (by decide)), h, rfl⟩)
set_option maxHeartbeats 4000000 in
set_option maxRecDepth 100000 in
theorem ct_X10_subtitleOf {l : Launch} {E : ET} (hs : eS E = false) {s : Sg} {x1 : Int} (g1 : rgI x1) {x2 : Int} (g2 : rgI x2) {Q : Int → Prop} (h : wp_X10_subtitleOf x1 x2 s Q) : MetE l E yX10_subtitleOf cX10_subtitleOf 3 (some .int) rm_X10_subtitleOf s [.ref (adE E 279), .int (jI x1), .int (jI x2)] (qI (fun r t => Q r ∧ t = s) (gN s)) := by
  refine MetJ (by decide +kernel) (Nat.le_of_ble_eq_true rfl) ?_
  intro F hl C hF
  subst hl
  show JJ F E 0 0 s 0 [(0, .ref (adE E 279)), (1, .int (jI x1)), (2, .int (jI x2))] []
  refine J_iload_n C dX10_subtitleOf_0 rfl 2 rfl ?_
  have q21 : (x2 < 0 ∨ 5 < x2) ∨ x2 = 0 ∨ x2 = 1 ∨ x2 = 2 ∨ x2 = 3 ∨ x2 = 4 ∨ x2 = 5 := by omega
  rcases q21 with q21 | q21 | q21 | q21 | q21 | q21 | q21
  · replace h := h.2.2.2.2.2.2 q21
    refine J_tswOut C g2 (tgt := 79) dX10_subtitleOf_1 q21 (by decide) ?_
    refine J_aload_n C dX10_subtitleOf_79 rfl 0 rfl ?_
    refine J_iload_n C dX10_subtitleOf_80 rfl 1 rfl ?_
    refine J_V C (ct_X10_nextOf hs g1 h) ck_X10_nextOf wm_X10_120 win_X10_nextOf wsel_X10_nextOf (dmM hs kc279 (by decide)) (clE_k E s kc279) rfl ⟨rfl, rfl⟩ (by decide) (by decide) (As := [.int (jI x1)]) (rest := []) rfl rfl (Nat.le_of_ble_eq_true rfl) dX10_subtitleOf_81 (J_pI (fun v22 g24 h => ?_))
    exact J_iret C (Nat.zero_le _) (Nat.zero_le _) dX10_subtitleOf_84 (by rw [hF]; exact ⟨_, rfl, g24, ⟨h, rfl⟩, rfl⟩)
  · replace h := h.1 q21
    refine J_tswIn C q21 (rgN 0 (by decide)) (tgt := 40) (off := 39) dX10_subtitleOf_1 (by decide) (by decide) rfl (by decide) ?_
    refine J_aload_n C dX10_subtitleOf_40 rfl 0 rfl ?_
    refine gf_X10_begins C hs wf_X10_16 dX10_subtitleOf_41 ?_
    refine J_iload_n C dX10_subtitleOf_44 rfl 1 rfl ?_
    obtain ⟨b26, b27, h⟩ := h
    refine J_iald C (dmM hs kc282 (by decide)) (n := 16) (clE_k E s kc282) (by decide) b26 b27 dX10_subtitleOf_45 (fun g28 => ?_)
    exact J_iret C (Nat.zero_le _) (Nat.zero_le _) dX10_subtitleOf_46 (by rw [hF]; exact ⟨_, rfl, g28, ⟨h, rfl⟩, rfl⟩)
  · replace h := h.2.1 q21
    refine J_tswIn C q21 (rgN 1 (by decide)) (tgt := 47) (off := 46) dX10_subtitleOf_1 (by decide) (by decide) rfl (by decide) ?_
    refine J_aload_n C dX10_subtitleOf_47 rfl 0 rfl ?_
    refine gf_X10_ends C hs wf_X10_19 dX10_subtitleOf_48 ?_
    refine J_iload_n C dX10_subtitleOf_51 rfl 1 rfl ?_
    obtain ⟨b29, b30, h⟩ := h
    refine J_iald C (dmM hs kc283 (by decide)) (n := 16) (clE_k E s kc283) (by decide) b29 b30 dX10_subtitleOf_52 (fun g31 => ?_)
    exact J_iret C (Nat.zero_le _) (Nat.zero_le _) dX10_subtitleOf_53 (by rw [hF]; exact ⟨_, rfl, g31, ⟨h, rfl⟩, rfl⟩)
  · replace h := h.2.2.1 q21
    refine J_tswIn C q21 (rgN 2 (by decide)) (tgt := 54) (off := 53) dX10_subtitleOf_1 (by decide) (by decide) rfl (by decide) ?_
    refine J_aload_n C dX10_subtitleOf_54 rfl 0 rfl ?_
    refine gf_X10_parts C hs wf_X10_22 dX10_subtitleOf_55 ?_
    refine J_iload_n C dX10_subtitleOf_58 rfl 1 rfl ?_
    obtain ⟨b32, b33, h⟩ := h
    refine J_iald C (dmM hs kc284 (by decide)) (n := 16) (clE_k E s kc284) (by decide) b32 b33 dX10_subtitleOf_59 (fun g34 => ?_)
    exact J_iret C (Nat.zero_le _) (Nat.zero_le _) dX10_subtitleOf_60 (by rw [hF]; exact ⟨_, rfl, g34, ⟨h, rfl⟩, rfl⟩)
  · replace h := h.2.2.2.1 q21
    refine J_tswIn C q21 (rgN 3 (by decide)) (tgt := 61) (off := 60) dX10_subtitleOf_1 (by decide) (by decide) rfl (by decide) ?_
    refine J_aload_n C dX10_subtitleOf_61 rfl 0 rfl ?_
    refine J_iload_n C dX10_subtitleOf_62 rfl 1 rfl ?_
    refine J_V C (ct_X10_charactersOf hs g1 h) ck_X10_charactersOf wm_X10_114 win_X10_charactersOf wsel_X10_charactersOf (dmM hs kc279 (by decide)) (clE_k E s kc279) rfl ⟨rfl, rfl⟩ (by decide) (by decide) (As := [.int (jI x1)]) (rest := []) rfl rfl (Nat.le_of_ble_eq_true rfl) dX10_subtitleOf_63 (J_pI (fun v35 g37 h => ?_))
    exact J_iret C (Nat.zero_le _) (Nat.zero_le _) dX10_subtitleOf_66 (by rw [hF]; exact ⟨_, rfl, g37, ⟨h, rfl⟩, rfl⟩)
  · replace h := h.2.2.2.2.1 q21
    refine J_tswIn C q21 (rgN 4 (by decide)) (tgt := 67) (off := 66) dX10_subtitleOf_1 (by decide) (by decide) rfl (by decide) ?_
    refine J_aload_n C dX10_subtitleOf_67 rfl 0 rfl ?_
    refine J_iload_n C dX10_subtitleOf_68 rfl 1 rfl ?_
    refine J_V C (ct_X10_readingOf hs g1 h) ck_X10_readingOf wm_X10_123 win_X10_readingOf wsel_X10_readingOf (dmM hs kc279 (by decide)) (clE_k E s kc279) rfl ⟨rfl, rfl⟩ (by decide) (by decide) (As := [.int (jI x1)]) (rest := []) rfl rfl (Nat.le_of_ble_eq_true rfl) dX10_subtitleOf_69 (J_pI (fun v39 g41 h => ?_))
    exact J_iret C (Nat.zero_le _) (Nat.zero_le _) dX10_subtitleOf_72 (by rw [hF]; exact ⟨_, rfl, g41, ⟨h, rfl⟩, rfl⟩)
  · replace h := h.2.2.2.2.2.1 q21
    refine J_tswIn C q21 (rgN 5 (by decide)) (tgt := 73) (off := 72) dX10_subtitleOf_1 (by decide) (by decide) rfl (by decide) ?_
    refine J_aload_n C dX10_subtitleOf_73 rfl 0 rfl ?_
    refine J_iload_n C dX10_subtitleOf_74 rfl 1 rfl ?_
    refine J_V C (ct_X10_faultsOf hs g1 h) ck_X10_faultsOf wm_X10_193 win_X10_faultsOf wsel_X10_faultsOf (dmM hs kc279 (by decide)) (clE_k E s kc279) rfl ⟨rfl, rfl⟩ (by decide) (by decide) (As := [.int (jI x1)]) (rest := []) rfl rfl (Nat.le_of_ble_eq_true rfl) dX10_subtitleOf_75 (J_pI (fun v43 g45 h => ?_))
    exact J_iret C (Nat.zero_le _) (Nat.zero_le _) dX10_subtitleOf_78 (by rw [hF]; exact ⟨_, rfl, g45, ⟨h, rfl⟩, rfl⟩)
set_option maxHeartbeats 4000000 in
set_option maxRecDepth 100000 in
theorem ct_X10_subtitle {l : Launch} {E : ET} (hs : eS E = false) {s : Sg} {x1 : Int} (g1 : rgI x1) {x2 : Int} (g2 : rgI x2) {Q : Int → Sg → Prop} (h : wp_X10_subtitle x1 x2 s Q) : MetE l E yX10_subtitle cX10_subtitle 3 (some .int) rm_X10_subtitle s [.ref (adE E 279), .int (jI x1), .int (jI x2)] (qI Q (gN s)) := by
  refine MetJ (by decide +kernel) (Nat.le_of_ble_eq_true rfl) ?_
  intro F hl C hF
  subst hl
  show JJ F E 0 0 s 0 [(0, .ref (adE E 279)), (1, .int (jI x1)), (2, .int (jI x2))] []
  refine J_aload_n C dX10_subtitle_0 rfl 0 rfl ?_
  refine J_iload_n C dX10_subtitle_1 rfl 1 rfl ?_
  refine J_V C (ct_X10_isSubtitle hs g1 h) ck_X10_isSubtitle wm_X10_190 win_X10_isSubtitle wsel_X10_isSubtitle (dmM hs kc279 (by decide)) (clE_k E s kc279) rfl ⟨rfl, rfl⟩ (by decide) (by decide) (As := [.int (jI x1)]) (rest := []) rfl rfl (Nat.le_of_ble_eq_true rfl) dX10_subtitle_2 (J_pZ (fun v21 g23 h => ?_))
  refine J_if_eq C (rg_z g23) (tgt := 18) dX10_subtitle_5 (by decide) (fun q39 => ?_) (fun q39 => ?_)
  · replace h := h.1 q39
    refine J_iconst C dX10_subtitle_18 ?_
    exact J_iret C (Nat.zero_le _) (Nat.zero_le _) dX10_subtitle_19 (by rw [hF]; exact ⟨_, rfl, (rgN (-1) (by decide)), h, rfl⟩)
  · replace h := h.2 q39
    refine J_iload_n C dX10_subtitle_8 rfl 2 rfl ?_
    refine J_iconst C dX10_subtitle_9 ?_
    refine J_bipush C dX10_subtitle_10 (by decide) ?_
    refine J_S C (ct_X10_in hs g2 (rgN 0 (by decide)) (rgN 6 (by decide)) h) ck_X10_in wm_X10_60 wst_X10_in ⟨rfl, rfl⟩ (by decide) (by decide) (As := [.int (jI x2), .int (jI 0), .int (jI 6)]) (rest := []) rfl rfl (Nat.le_of_ble_eq_true rfl) dX10_subtitle_12 (J_pZ (fun v25 g27 h => ?_))
    refine J_if_ne C (rg_z g27) (tgt := 20) dX10_subtitle_15 (by decide) (fun q38 => ?_) (fun q38 => ?_)
    · replace h := h.2 q38
      refine J_aload_n C dX10_subtitle_20 rfl 0 rfl ?_
      refine J_V C (ct_X10_takes hs h) ck_X10_takes wm_X10_155 win_X10_takes wsel_X10_takes (dmM hs kc279 (by decide)) (clE_k E s kc279) rfl ⟨rfl, rfl⟩ (by decide) (by decide) (As := []) (rest := []) rfl rfl (Nat.le_of_ble_eq_true rfl) dX10_subtitle_21 (J_kV (fun s30 h n32 => ?_))
      have n33 : gN s30 = gN s := n32
      refine J_aload_n C dX10_subtitle_24 rfl 0 rfl ?_
      refine J_iload_n C dX10_subtitle_25 rfl 1 rfl ?_
      refine J_iload_n C dX10_subtitle_26 rfl 2 rfl ?_
      refine J_V C (ct_X10_subtitleOf hs g1 g2 h) ck_X10_subtitleOf wm_X10_196 win_X10_subtitleOf wsel_X10_subtitleOf (dmM hs kc279 (by decide)) (clE_k E s30 kc279) rfl ⟨rfl, rfl⟩ (by decide) (by decide) (As := [.int (jI x1), .int (jI x2)]) (rest := []) rfl rfl (Nat.le_of_ble_eq_true rfl) dX10_subtitle_27 (J_pI (fun v34 g36 h => ?_))
      exact J_iret C (Nat.zero_le _) (Nat.zero_le _) dX10_subtitle_30 (by rw [hF]; exact ⟨_, rfl, g36, h, n33⟩)
    · replace h := h.1 q38
      refine J_iconst C dX10_subtitle_18 ?_
      exact J_iret C (Nat.zero_le _) (Nat.zero_le _) dX10_subtitle_19 (by rw [hF]; exact ⟨_, rfl, (rgN (-1) (by decide)), h, rfl⟩)
set_option maxHeartbeats 4000000 in
set_option maxRecDepth 100000 in
theorem ct_X10_partOf {l : Launch} {E : ET} (hs : eS E = false) {s : Sg} {x1 : Int} (g1 : rgI x1) {x2 : Int} (g2 : rgI x2) {Q : Int → Prop} (h : wp_X10_partOf x1 x2 s Q) : MetE l E yX10_partOf cX10_partOf 4 (some .int) rm_X10_partOf s [.ref (adE E 279), .int (jI x1), .int (jI x2)] (qI (fun r t => Q r ∧ t = s) (gN s)) := by
  refine MetJ (by decide +kernel) (Nat.le_of_ble_eq_true rfl) ?_
  intro F hl C hF
  subst hl
  show JJ F E 0 0 s 0 [(0, .ref (adE E 279)), (1, .int (jI x1)), (2, .int (jI x2))] []
  refine J_aload_n C dX10_partOf_0 rfl 0 rfl ?_
  refine J_iload_n C dX10_partOf_1 rfl 1 rfl ?_
  refine J_V C (ct_X10_brokenAt hs g1 h) ck_X10_brokenAt wm_X10_111 win_X10_brokenAt wsel_X10_brokenAt (dmM hs kc279 (by decide)) (clE_k E s kc279) rfl ⟨rfl, rfl⟩ (by decide) (by decide) (As := [.int (jI x1)]) (rest := []) rfl rfl (Nat.le_of_ble_eq_true rfl) dX10_partOf_2 (J_pI (fun v21 g23 h => ?_))
  refine J_istore_n C dX10_partOf_5 rfl (by decide) (lv' := [(3, .int (jI v21)), (0, .ref (adE E 279)), (1, .int (jI x1)), (2, .int (jI x2))]) rfl ?_
  refine J_iload_n C dX10_partOf_6 rfl 3 rfl ?_
  have q25 : (x2 < 0 ∨ 3 < x2) ∨ x2 = 0 ∨ x2 = 1 ∨ x2 = 2 ∨ x2 = 3 := by omega
  rcases q25 with q25 | q25 | q25 | q25 | q25
  · replace h := h.2.2.2.2 q25
    refine J_tswOut C g2 (tgt := 82) dX10_partOf_7 q25 (by decide) ?_
    refine J_iload_n C dX10_partOf_82 rfl 3 rfl ?_
    refine J_bipush C dX10_partOf_83 (by decide) ?_
    refine J_isub C dX10_partOf_85 ?_
    refine J_aload_n C dX10_partOf_86 rfl 1 rfl ?_
    refine J_iload_n C dX10_partOf_87 rfl 2 rfl ?_
    refine J_V C (ct_X10_longOf hs g1 h) ck_X10_longOf wm_X10_94 win_X10_longOf wsel_X10_longOf (dmM hs kc279 (by decide)) (clE_k E s kc279) rfl ⟨rfl, rfl⟩ (by decide) (by decide) (As := [.int (jI x1)]) (rest := [.int (jI (x2 - 10))]) rfl rfl (Nat.le_of_ble_eq_true rfl) dX10_partOf_88 (J_pI (fun v26 g28 h => ?_))
    obtain ⟨g30, h⟩ := h
    refine J_icmp_ge C g30 g28 (tgt := 106) dX10_partOf_91 (by decide) (fun q36 => ?_) (fun q36 => ?_)
    · replace h := h.1 q36
      refine J_bipush C dX10_partOf_106 (by decide) ?_
      exact J_iret C (Nat.zero_le _) (Nat.zero_le _) dX10_partOf_108 (by rw [hF]; exact ⟨_, rfl, (rgN (-9) (by decide)), ⟨h, rfl⟩, rfl⟩)
    · replace h := h.2 q36
      refine J_aload_n C dX10_partOf_94 rfl 1 rfl ?_
      refine J_iload_n C dX10_partOf_95 rfl 2 rfl ?_
      refine J_iload_n C dX10_partOf_96 rfl 3 rfl ?_
      refine J_bipush C dX10_partOf_97 (by decide) ?_
      refine J_isub C dX10_partOf_99 ?_
      obtain ⟨g31, h⟩ := h
      refine J_V C (ct_X10_byteOf hs g1 g31 h) ck_X10_byteOf wm_X10_97 win_X10_byteOf wsel_X10_byteOf (dmM hs kc279 (by decide)) (clE_k E s kc279) rfl ⟨rfl, rfl⟩ (by decide) (by decide) (As := [.int (jI x1), .int (jI (x2 - 10))]) (rest := []) rfl rfl (Nat.le_of_ble_eq_true rfl) dX10_partOf_100 (J_pI (fun v32 g34 h => ?_))
      refine J_goto C (tgt := 108) dX10_partOf_103 (by decide) ?_
      exact J_iret C (Nat.zero_le _) (Nat.zero_le _) dX10_partOf_108 (by rw [hF]; exact ⟨_, rfl, g34, ⟨h, rfl⟩, rfl⟩)
  · replace h := h.1 q25
    refine J_tswIn C q25 (rgN 0 (by decide)) (tgt := 36) (off := 29) dX10_partOf_7 (by decide) (by decide) rfl (by decide) ?_
    refine J_aload_n C dX10_partOf_36 rfl 1 rfl ?_
    refine J_iload_n C dX10_partOf_37 rfl 2 rfl ?_
    refine J_V C (ct_X10_speakerOf hs g1 h) ck_X10_speakerOf wm_X10_149 win_X10_speakerOf wsel_X10_speakerOf (dmM hs kc279 (by decide)) (clE_k E s kc279) rfl ⟨rfl, rfl⟩ (by decide) (by decide) (As := [.int (jI x1)]) (rest := []) rfl rfl (Nat.le_of_ble_eq_true rfl) dX10_partOf_38 (J_pI (fun v37 g39 h => ?_))
    exact J_iret C (Nat.zero_le _) (Nat.zero_le _) dX10_partOf_41 (by rw [hF]; exact ⟨_, rfl, g39, ⟨h, rfl⟩, rfl⟩)
  · replace h := h.2.1 q25
    refine J_tswIn C q25 (rgN 1 (by decide)) (tgt := 42) (off := 35) dX10_partOf_7 (by decide) (by decide) rfl (by decide) ?_
    refine J_aload_n C dX10_partOf_42 rfl 1 rfl ?_
    refine J_iload_n C dX10_partOf_43 rfl 2 rfl ?_
    refine J_V C (ct_X10_longOf hs g1 h) ck_X10_longOf wm_X10_94 win_X10_longOf wsel_X10_longOf (dmM hs kc279 (by decide)) (clE_k E s kc279) rfl ⟨rfl, rfl⟩ (by decide) (by decide) (As := [.int (jI x1)]) (rest := []) rfl rfl (Nat.le_of_ble_eq_true rfl) dX10_partOf_44 (J_pI (fun v41 g43 h => ?_))
    exact J_iret C (Nat.zero_le _) (Nat.zero_le _) dX10_partOf_47 (by rw [hF]; exact ⟨_, rfl, g43, ⟨h, rfl⟩, rfl⟩)
  · replace h := h.2.2.1 q25
    refine J_tswIn C q25 (rgN 2 (by decide)) (tgt := 48) (off := 41) dX10_partOf_7 (by decide) (by decide) rfl (by decide) ?_
    refine J_iload_n C dX10_partOf_48 rfl 0 rfl ?_
    refine J_bipush C dX10_partOf_49 (by decide) ?_
    refine J_icmp_ne C g23 (rgN (-9) (by decide)) (tgt := 62) dX10_partOf_51 (by decide) (fun q49 => ?_) (fun q49 => ?_)
    · replace h := h.2 q49
      refine J_iload_n C dX10_partOf_62 rfl 0 rfl ?_
      exact J_iret C (Nat.zero_le _) (Nat.zero_le _) dX10_partOf_63 (by rw [hF]; exact ⟨_, rfl, g23, ⟨h, rfl⟩, rfl⟩)
    · replace h := h.1 q49
      refine J_aload_n C dX10_partOf_54 rfl 1 rfl ?_
      refine J_iload_n C dX10_partOf_55 rfl 2 rfl ?_
      refine J_V C (ct_X10_longOf hs g1 h) ck_X10_longOf wm_X10_94 win_X10_longOf wsel_X10_longOf (dmM hs kc279 (by decide)) (clE_k E s kc279) rfl ⟨rfl, rfl⟩ (by decide) (by decide) (As := [.int (jI x1)]) (rest := []) rfl rfl (Nat.le_of_ble_eq_true rfl) dX10_partOf_56 (J_pI (fun v45 g47 h => ?_))
      refine J_goto C (tgt := 63) dX10_partOf_59 (by decide) ?_
      exact J_iret C (Nat.zero_le _) (Nat.zero_le _) dX10_partOf_63 (by rw [hF]; exact ⟨_, rfl, g47, ⟨h, rfl⟩, rfl⟩)
  · replace h := h.2.2.2.1 q25
    refine J_tswIn C q25 (rgN 3 (by decide)) (tgt := 64) (off := 57) dX10_partOf_7 (by decide) (by decide) rfl (by decide) ?_
    refine J_iload_n C dX10_partOf_64 rfl 0 rfl ?_
    refine J_bipush C dX10_partOf_65 (by decide) ?_
    refine J_icmp_ne C g23 (rgN (-9) (by decide)) (tgt := 75) dX10_partOf_67 (by decide) (fun q54 => ?_) (fun q54 => ?_)
    · replace h := h.2 q54
      refine J_aload_n C dX10_partOf_75 rfl 1 rfl ?_
      refine J_iload_n C dX10_partOf_76 rfl 2 rfl ?_
      refine J_iload_n C dX10_partOf_77 rfl 0 rfl ?_
      refine J_V C (ct_X10_rankOf hs g1 g23 h) ck_X10_rankOf wm_X10_108 win_X10_rankOf wsel_X10_rankOf (dmM hs kc279 (by decide)) (clE_k E s kc279) rfl ⟨rfl, rfl⟩ (by decide) (by decide) (As := [.int (jI x1), .int (jI v21)]) (rest := []) rfl rfl (Nat.le_of_ble_eq_true rfl) dX10_partOf_78 (J_pI (fun v50 g52 h => ?_))
      exact J_iret C (Nat.zero_le _) (Nat.zero_le _) dX10_partOf_81 (by rw [hF]; exact ⟨_, rfl, g52, ⟨h, rfl⟩, rfl⟩)
    · replace h := h.1 q54
      refine J_bipush C dX10_partOf_70 (by decide) ?_
      refine J_goto C (tgt := 81) dX10_partOf_72 (by decide) ?_
      exact J_iret C (Nat.zero_le _) (Nat.zero_le _) dX10_partOf_81 (by rw [hF]; exact ⟨_, rfl, (rgN (-9) (by decide)), ⟨h, rfl⟩, rfl⟩)
set_option maxHeartbeats 4000000 in
set_option maxRecDepth 100000 in
theorem ct_X10_part {l : Launch} {E : ET} (hs : eS E = false) {s : Sg} {x1 : Int} (g1 : rgI x1) {x2 : Int} (g2 : rgI x2) {x3 : Int} (g3 : rgI x3) {Q : Int → Prop} (h : wp_X10_part x1 x2 x3 s Q) : MetE l E yX10_part cX10_part 4 (some .int) rm_X10_part s [.ref (adE E 279), .int (jI x1), .int (jI x2), .int (jI x3)] (qI (fun r t => Q r ∧ t = s) (gN s)) := by
  refine MetJ (by decide +kernel) (Nat.le_of_ble_eq_true rfl) ?_
  intro F hl C hF
  subst hl
  show JJ F E 0 0 s 0 [(0, .ref (adE E 279)), (1, .int (jI x1)), (2, .int (jI x2)), (3, .int (jI x3))] []
  refine J_aload_n C dX10_part_0 rfl 0 rfl ?_
  refine J_iload_n C dX10_part_1 rfl 1 rfl ?_
  refine J_V C (ct_X10_isSubtitle hs g1 h) ck_X10_isSubtitle wm_X10_190 win_X10_isSubtitle wsel_X10_isSubtitle (dmM hs kc279 (by decide)) (clE_k E s kc279) rfl ⟨rfl, rfl⟩ (by decide) (by decide) (As := [.int (jI x1)]) (rest := []) rfl rfl (Nat.le_of_ble_eq_true rfl) dX10_part_2 (J_pZ (fun v21 g23 h => ?_))
  refine J_if_eq C (rg_z g23) (tgt := 31) dX10_part_5 (by decide) (fun q49 => ?_) (fun q49 => ?_)
  · replace h := h.1 q49
    refine J_iconst C dX10_part_31 ?_
    exact J_iret C (Nat.zero_le _) (Nat.zero_le _) dX10_part_32 (by rw [hF]; exact ⟨_, rfl, (rgN (-1) (by decide)), ⟨h, rfl⟩, rfl⟩)
  · replace h := h.2 q49
    refine J_iload_n C dX10_part_8 rfl 2 rfl ?_
    refine J_iconst C dX10_part_9 ?_
    refine J_iconst C dX10_part_10 ?_
    refine J_S C (ct_X10_in hs g2 (rgN 0 (by decide)) (rgN 1 (by decide)) h) ck_X10_in wm_X10_60 wst_X10_in ⟨rfl, rfl⟩ (by decide) (by decide) (As := [.int (jI x2), .int (jI 0), .int (jI 1)]) (rest := []) rfl rfl (Nat.le_of_ble_eq_true rfl) dX10_part_11 (J_pZ (fun v25 g27 h => ?_))
    refine J_if_eq C (rg_z g27) (tgt := 31) dX10_part_14 (by decide) (fun q48 => ?_) (fun q48 => ?_)
    · replace h := h.1 q48
      refine J_iconst C dX10_part_31 ?_
      exact J_iret C (Nat.zero_le _) (Nat.zero_le _) dX10_part_32 (by rw [hF]; exact ⟨_, rfl, (rgN (-1) (by decide)), ⟨h, rfl⟩, rfl⟩)
    · replace h := h.2 q48
      refine J_iload_n C dX10_part_17 rfl 3 rfl ?_
      refine J_if_lt C g3 (tgt := 31) dX10_part_18 (by decide) (fun q47 => ?_) (fun q47 => ?_)
      · replace h := h.1 q47
        refine J_iconst C dX10_part_31 ?_
        exact J_iret C (Nat.zero_le _) (Nat.zero_le _) dX10_part_32 (by rw [hF]; exact ⟨_, rfl, (rgN (-1) (by decide)), ⟨h, rfl⟩, rfl⟩)
      · replace h := h.2 q47
        refine J_iload_n C dX10_part_21 rfl 3 rfl ?_
        refine J_iconst C dX10_part_22 ?_
        refine J_bipush C dX10_part_23 (by decide) ?_
        refine J_S C (ct_X10_in hs g3 (rgN 4 (by decide)) (rgN 9 (by decide)) h) ck_X10_in wm_X10_60 wst_X10_in ⟨rfl, rfl⟩ (by decide) (by decide) (As := [.int (jI x3), .int (jI 4), .int (jI 9)]) (rest := []) rfl rfl (Nat.le_of_ble_eq_true rfl) dX10_part_25 (J_pZ (fun v29 g31 h => ?_))
        refine J_if_eq C (rg_z g31) (tgt := 33) dX10_part_28 (by decide) (fun q46 => ?_) (fun q46 => ?_)
        · replace h := h.1 q46
          refine J_iload_n C dX10_part_33 rfl 2 rfl ?_
          refine J_aload_n C dX10_part_34 rfl 0 rfl ?_
          refine gf_X10_page C hs wf_X10_7 dX10_part_35 ?_
          refine J_aload_n C dX10_part_38 rfl 0 rfl ?_
          refine J_iload_n C dX10_part_39 rfl 1 rfl ?_
          refine J_V C (ct_X10_at hs g1 h) ck_X10_at wm_X10_81 win_X10_at wsel_X10_at (dmM hs kc279 (by decide)) (clE_k E s kc279) rfl ⟨rfl, rfl⟩ (by decide) (by decide) (As := [.int (jI x1)]) (rest := [.ref (adE E 280), .int (jI x2)]) rfl rfl (Nat.le_of_ble_eq_true rfl) dX10_part_40 (J_pI (fun v33 g35 h => ?_))
          refine J_iconst C dX10_part_43 ?_
          refine J_iadd C dX10_part_44 ?_
          obtain ⟨b37, b38, h⟩ := h
          refine J_iald C (dmM hs kc280 (by decide)) (n := 12960) (clE_k E s kc280) (by decide) b37 b38 dX10_part_45 (fun g39 => ?_)
          refine J_icmp_lt C g2 g39 (tgt := 54) dX10_part_46 (by decide) (fun q45 => ?_) (fun q45 => ?_)
          · replace h := h.1 q45
            refine J_aload_n C dX10_part_54 rfl 0 rfl ?_
            refine J_iconst C dX10_part_55 ?_
            refine J_iload_n C dX10_part_56 rfl 1 rfl ?_
            refine J_imul C dX10_part_57 ?_
            refine J_iload_n C dX10_part_58 rfl 2 rfl ?_
            refine J_iadd C dX10_part_59 ?_
            refine J_iload_n C dX10_part_60 rfl 3 rfl ?_
            obtain ⟨g40, h⟩ := h
            refine J_V C (ct_X10_partOf hs g40 g3 h) ck_X10_partOf wm_X10_199 win_X10_partOf wsel_X10_partOf (dmM hs kc279 (by decide)) (clE_k E s kc279) rfl ⟨rfl, rfl⟩ (by decide) (by decide) (As := [.int (jI ((2 * x1) + x2)), .int (jI x3)]) (rest := []) rfl rfl (Nat.le_of_ble_eq_true rfl) dX10_part_61 (J_pI (fun v41 g43 h => ?_))
            exact J_iret C (Nat.zero_le _) (Nat.zero_le _) dX10_part_64 (by rw [hF]; exact ⟨_, rfl, g43, ⟨h, rfl⟩, rfl⟩)
          · replace h := h.2 q45
            refine J_bipush C dX10_part_49 (by decide) ?_
            refine J_goto C (tgt := 64) dX10_part_51 (by decide) ?_
            exact J_iret C (Nat.zero_le _) (Nat.zero_le _) dX10_part_64 (by rw [hF]; exact ⟨_, rfl, (rgN (-9) (by decide)), ⟨h, rfl⟩, rfl⟩)
        · replace h := h.2 q46
          refine J_iconst C dX10_part_31 ?_
          exact J_iret C (Nat.zero_le _) (Nat.zero_le _) dX10_part_32 (by rw [hF]; exact ⟨_, rfl, (rgN (-1) (by decide)), ⟨h, rfl⟩, rfl⟩)
set_option maxHeartbeats 4000000 in
set_option maxRecDepth 100000 in
theorem ct_X10_set {l : Launch} {E : ET} (hs : eS E = false) {s : Sg} {x1 : Int} (g1 : rgI x1) {x2 : Int} (g2 : rgI x2) {Q : Int → Sg → Prop} (h : wp_X10_set x1 x2 s Q) : MetE l E yX10_set cX10_set 4 (some .int) rm_X10_set s [.ref (adE E 279), .int (jI x1), .int (jI x2)] (qI Q (gN s)) := by
  refine MetJ (by decide +kernel) (Nat.le_of_ble_eq_true rfl) ?_
  intro F hl C hF
  subst hl
  show JJ F E 0 0 s 0 [(0, .ref (adE E 279)), (1, .int (jI x1)), (2, .int (jI x2))] []
  have j62 : ∀ (x1 : Int) (x2 : Int) (t0 : Int) (t1 : Int) (t2 : Int) (sj : Sg), wj_X10_set_62   x1 x2 t0 t1 t2 sj Q → rgI x1 → rgI x2 → rgI t0 → rgI t1 → rgI t2 → gN sj = gN s → JJ F E 0 0 sj 62 [(0, .ref (adE E 279)), (1, .int (jI x1)), (2, .int (jI x2))] [.int (jI t0), .int (jI t1), .int (jI t2)] := by
    intro x1 x2 t0 t1 t2 sj h g1 g2 gt0 gt1 gt2 nj
    refine J_S C (ct_X10_in hs gt2 gt1 gt0 h) ck_X10_in wm_X10_60 wst_X10_in ⟨rfl, rfl⟩ (by decide) (by decide) (As := [.int (jI t2), .int (jI t1), .int (jI t0)]) (rest := []) rfl rfl (Nat.le_of_ble_eq_true rfl) dX10_set_62 (J_pZ (fun v25 g27 h => ?_))
    refine J_if_ne C (rg_z g27) (tgt := 70) dX10_set_65 (by decide) (fun q43 => ?_) (fun q43 => ?_)
    · replace h := h.2 q43
      refine J_aload_n C dX10_set_70 rfl 0 rfl ?_
      refine J_V C (ct_X10_records hs h) ck_X10_records wm_X10_68 win_X10_records wsel_X10_records (dmM hs kc279 (by decide)) (clE_k E sj kc279) rfl ⟨rfl, rfl⟩ (by decide) (by decide) (As := []) (rest := []) rfl rfl (Nat.le_of_ble_eq_true rfl) dX10_set_71 (J_kV (fun s30 h n32 => ?_))
      have n33 : gN s30 = gN s := n32.trans (nj)
      refine J_aload_n C dX10_set_74 rfl 0 rfl ?_
      refine J_iload_n C dX10_set_75 rfl 1 rfl ?_
      refine J_V C (ct_X10_setting hs g1 h) ck_X10_setting wm_X10_105 win_X10_setting wsel_X10_setting (dmM hs kc279 (by decide)) (clE_k E s30 kc279) rfl ⟨rfl, rfl⟩ (by decide) (by decide) (As := [.int (jI x1)]) (rest := []) rfl rfl (Nat.le_of_ble_eq_true rfl) dX10_set_76 (J_pI (fun v34 g36 h => ?_))
      refine J_istore_n C dX10_set_79 rfl (by decide) (lv' := [(3, .int (jI v34)), (0, .ref (adE E 279)), (1, .int (jI x1)), (2, .int (jI x2))]) rfl ?_
      refine J_aload_n C dX10_set_80 rfl 1 rfl ?_
      refine gf_X10_page C hs wf_X10_7 dX10_set_81 ?_
      refine J_sipush C dX10_set_84 (by decide) ?_
      refine J_iload_n C dX10_set_87 rfl 2 rfl ?_
      refine J_iadd C dX10_set_88 ?_
      refine J_iload_n C dX10_set_89 rfl 3 rfl ?_
      obtain ⟨b38, b39, h⟩ := h
      refine J_iast C (wrM hs kc280 (by decide)) (n := 12960) (fun z => clE_k E z kc280) (by decide) b38 b39 g2 dX10_set_90 ?_
      obtain ⟨s40, f41⟩ : ∃ z : Sg, z = sI s30 280 (1435 + x1) x2 := ⟨_, rfl⟩
      replace h := h s40 f41
      refine J_sig f41 ?_
      have n42 : gN s40 = gN s := by rw [f41]; exact n33
      refine J_iload_n C dX10_set_91 rfl 0 rfl ?_
      exact J_iret C (Nat.zero_le _) (Nat.zero_le _) dX10_set_92 (by rw [hF]; exact ⟨_, rfl, g36, h, n42⟩)
    · replace h := h.1 q43
      refine J_iconst C dX10_set_68 ?_
      exact J_iret C (Nat.zero_le _) (Nat.zero_le _) dX10_set_69 (by rw [hF]; exact ⟨_, rfl, (rgN (-1) (by decide)), h, nj⟩)
  have j30 : ∀ (x1 : Int) (x2 : Int) (t0 : Int) (t1 : Int) (sj : Sg), wj_X10_set_30   x1 x2 t0 t1 sj Q → rgI x1 → rgI x2 → rgI t0 → rgI t1 → gN sj = gN s → JJ F E 0 0 sj 30 [(0, .ref (adE E 279)), (1, .int (jI x1)), (2, .int (jI x2))] [.int (jI t0), .int (jI t1)] := by
    intro x1 x2 t0 t1 sj h g1 g2 gt0 gt1 nj
    refine J_iload_n C dX10_set_30 rfl 1 rfl ?_
    refine J_if_ne C g1 (tgt := 39) dX10_set_31 (by decide) (fun q46 => ?_) (fun q46 => ?_)
    · replace h := h.2 q46
      refine J_iload_n C dX10_set_39 rfl 1 rfl ?_
      refine J_iconst C dX10_set_40 ?_
      refine J_icmp_ne C g1 (rgN 1 (by decide)) (tgt := 50) dX10_set_41 (by decide) (fun q45 => ?_) (fun q45 => ?_)
      · replace h := h.2 q45
        refine J_iload_n C dX10_set_50 rfl 1 rfl ?_
        refine J_iconst C dX10_set_51 ?_
        refine J_icmp_ne C g1 (rgN 4 (by decide)) (tgt := 60) dX10_set_52 (by decide) (fun q44 => ?_) (fun q44 => ?_)
        · replace h := h.2 q44
          refine J_bipush C dX10_set_60 (by decide) ?_
          exact J_sub [0, 1, 2] rfl (j62 _ _ _ _ _ _ h g1 g2 (rgN 50 (by decide)) gt0 gt1 nj)
        · replace h := h.1 q44
          refine J_bipush C dX10_set_55 (by decide) ?_
          refine J_goto C (tgt := 62) dX10_set_57 (by decide) ?_
          exact J_sub [0, 1, 2] rfl (j62 _ _ _ _ _ _ h g1 g2 (rgN 40 (by decide)) gt0 gt1 nj)
      · replace h := h.1 q45
        refine J_sipush C dX10_set_44 (by decide) ?_
        refine J_goto C (tgt := 62) dX10_set_47 (by decide) ?_
        exact J_sub [0, 1, 2] rfl (j62 _ _ _ _ _ _ h g1 g2 (rgN 200 (by decide)) gt0 gt1 nj)
    · replace h := h.1 q46
      refine J_bipush C dX10_set_34 (by decide) ?_
      refine J_goto C (tgt := 62) dX10_set_36 (by decide) ?_
      exact J_sub [0, 1, 2] rfl (j62 _ _ _ _ _ _ h g1 g2 (rgN 20 (by decide)) gt0 gt1 nj)
  refine J_iload_n C dX10_set_0 rfl 1 rfl ?_
  refine J_iconst C dX10_set_1 ?_
  refine J_iconst C dX10_set_2 ?_
  refine J_S C (ct_X10_in hs g1 (rgN 0 (by decide)) (rgN 4 (by decide)) h) ck_X10_in wm_X10_60 wst_X10_in ⟨rfl, rfl⟩ (by decide) (by decide) (As := [.int (jI x1), .int (jI 0), .int (jI 4)]) (rest := []) rfl rfl (Nat.le_of_ble_eq_true rfl) dX10_set_3 (J_pZ (fun v21 g23 h => ?_))
  refine J_if_eq C (rg_z g23) (tgt := 68) dX10_set_6 (by decide) (fun q49 => ?_) (fun q49 => ?_)
  · replace h := h.1 q49
    refine J_iconst C dX10_set_68 ?_
    exact J_iret C (Nat.zero_le _) (Nat.zero_le _) dX10_set_69 (by rw [hF]; exact ⟨_, rfl, (rgN (-1) (by decide)), h, rfl⟩)
  · replace h := h.2 q49
    refine J_iload_n C dX10_set_9 rfl 2 rfl ?_
    refine J_iload_n C dX10_set_10 rfl 1 rfl ?_
    refine J_iconst C dX10_set_11 ?_
    refine J_icmp_ne C g1 (rgN 4 (by decide)) (tgt := 20) dX10_set_12 (by decide) (fun q48 => ?_) (fun q48 => ?_)
    · replace h := h.2 q48
      refine J_iload_n C dX10_set_20 rfl 1 rfl ?_
      refine J_iconst C dX10_set_21 ?_
      refine J_icmp_ge C g1 (rgN 2 (by decide)) (tgt := 29) dX10_set_22 (by decide) (fun q47 => ?_) (fun q47 => ?_)
      · replace h := h.1 q47
        refine J_iconst C dX10_set_29 ?_
        exact J_sub [0, 1, 2] rfl (j30 _ _ _ _ _ h g1 g2 (rgN 0 (by decide)) g2 rfl)
      · replace h := h.2 q47
        refine J_iconst C dX10_set_25 ?_
        refine J_goto C (tgt := 30) dX10_set_26 (by decide) ?_
        exact J_sub [0, 1, 2] rfl (j30 _ _ _ _ _ h g1 g2 (rgN 1 (by decide)) g2 rfl)
    · replace h := h.1 q48
      refine J_bipush C dX10_set_15 (by decide) ?_
      refine J_goto C (tgt := 30) dX10_set_17 (by decide) ?_
      exact J_sub [0, 1, 2] rfl (j30 _ _ _ _ _ h g1 g2 (rgN 8 (by decide)) g2 rfl)
set_option maxHeartbeats 4000000 in
set_option maxRecDepth 100000 in
theorem ct_X10_conform {l : Launch} {E : ET} (hs : eS E = false) {s : Sg} {x1 : Int} (g1 : rgI x1) {Q : Int → Sg → Prop} (h : wp_X10_conform x1 s Q) : MetE l E yX10_conform cX10_conform 2 (some .int) rm_X10_conform s [.ref (adE E 279), .int (jI x1)] (qI Q (gN s)) := by
  refine MetJ (by decide +kernel) (Nat.le_of_ble_eq_true rfl) ?_
  intro F hl C hF
  subst hl
  show JJ F E 0 0 s 0 [(0, .ref (adE E 279)), (1, .int (jI x1))] []
  refine J_iload_n C dX10_conform_0 rfl 1 rfl ?_
  refine J_iconst C dX10_conform_1 ?_
  refine J_bipush C dX10_conform_2 (by decide) ?_
  refine J_S C (ct_X10_in hs g1 (rgN 1 (by decide)) (rgN 31 (by decide)) h) ck_X10_in wm_X10_60 wst_X10_in ⟨rfl, rfl⟩ (by decide) (by decide) (As := [.int (jI x1), .int (jI 1), .int (jI 31)]) (rest := []) rfl rfl (Nat.le_of_ble_eq_true rfl) dX10_conform_4 (J_pZ (fun v21 g23 h => ?_))
  refine J_if_ne C (rg_z g23) (tgt := 12) dX10_conform_7 (by decide) (fun q42 => ?_) (fun q42 => ?_)
  · replace h := h.2 q42
    refine J_aload_n C dX10_conform_12 rfl 0 rfl ?_
    refine J_iload_n C dX10_conform_13 rfl 1 rfl ?_
    refine J_V C (ct_X10_conforms hs g1 h) ck_X10_conforms wm_X10_202 win_X10_conforms wsel_X10_conforms (dmM hs kc279 (by decide)) (clE_k E s kc279) rfl ⟨rfl, rfl⟩ (by decide) (by decide) (As := [.int (jI x1)]) (rest := []) rfl rfl (Nat.le_of_ble_eq_true rfl) dX10_conform_14 (J_kZ (fun v25 s26 g27 h n28 => ?_))
    have n29 : gN s26 = gN s := n28
    refine J_if_ne C (rg_z g27) (tgt := 23) dX10_conform_17 (by decide) (fun q41 => ?_) (fun q41 => ?_)
    · replace h := h.2 q41
      refine J_aload_n C dX10_conform_23 rfl 0 rfl ?_
      refine J_V C (ct_X10_records hs h) ck_X10_records wm_X10_68 win_X10_records wsel_X10_records (dmM hs kc279 (by decide)) (clE_k E s26 kc279) rfl ⟨rfl, rfl⟩ (by decide) (by decide) (As := []) (rest := []) rfl rfl (Nat.le_of_ble_eq_true rfl) dX10_conform_24 (J_kV (fun s31 h n33 => ?_))
      have n34 : gN s31 = gN s := n33.trans (n29)
      refine J_aload_n C dX10_conform_27 rfl 0 rfl ?_
      refine J_V C (ct_X10_lays hs h) ck_X10_lays wm_X10_184 win_X10_lays wsel_X10_lays (dmM hs kc279 (by decide)) (clE_k E s31 kc279) rfl ⟨rfl, rfl⟩ (by decide) (by decide) (As := []) (rest := []) rfl rfl (Nat.le_of_ble_eq_true rfl) dX10_conform_28 (J_kV (fun s36 h n38 => ?_))
      have n39 : gN s36 = gN s := n38.trans (n34)
      refine J_aload_n C dX10_conform_31 rfl 0 rfl ?_
      refine gf_X10_many C hs wf_X10_84 dX10_conform_32 (fun g40 => ?_)
      exact J_iret C (Nat.zero_le _) (Nat.zero_le _) dX10_conform_35 (by rw [hF]; exact ⟨_, rfl, g40, h, n39⟩)
    · replace h := h.1 q41
      refine J_bipush C dX10_conform_20 (by decide) ?_
      exact J_iret C (Nat.zero_le _) (Nat.zero_le _) dX10_conform_22 (by rw [hF]; exact ⟨_, rfl, (rgN (-3) (by decide)), h, n29⟩)
  · replace h := h.1 q42
    refine J_iconst C dX10_conform_10 ?_
    exact J_iret C (Nat.zero_le _) (Nat.zero_le _) dX10_conform_11 (by rw [hF]; exact ⟨_, rfl, (rgN (-1) (by decide)), h, rfl⟩)
set_option maxHeartbeats 4000000 in
set_option maxRecDepth 100000 in
theorem ct_X10_wouldBe {l : Launch} {E : ET} (hs : eS E = false) {s : Sg} {x1 : Int} (g1 : rgI x1) {x2 : Int} (g2 : rgI x2) {Q : Int → Sg → Prop} (h : wp_X10_wouldBe x1 x2 s Q) : MetE l E yX10_wouldBe cX10_wouldBe 7 (some .int) rm_X10_wouldBe s [.ref (adE E 279), .int (jI x1), .int (jI x2)] (qI Q (gN s)) := by
  refine MetJ (by decide +kernel) (Nat.le_of_ble_eq_true rfl) ?_
  intro F hl C hF
  subst hl
  show JJ F E 0 0 s 0 [(0, .ref (adE E 279)), (1, .int (jI x1)), (2, .int (jI x2))] []
  refine J_aload_n C dX10_wouldBe_0 rfl 0 rfl ?_
  refine J_iload_n C dX10_wouldBe_1 rfl 1 rfl ?_
  refine J_V C (ct_X10_conforms hs g1 h) ck_X10_conforms wm_X10_202 win_X10_conforms wsel_X10_conforms (dmM hs kc279 (by decide)) (clE_k E s kc279) rfl ⟨rfl, rfl⟩ (by decide) (by decide) (As := [.int (jI x1)]) (rest := []) rfl rfl (Nat.le_of_ble_eq_true rfl) dX10_wouldBe_2 (J_kZ (fun v21 s22 g23 h n24 => ?_))
  have n25 : gN s22 = gN s := n24
  refine J_if_ne C (rg_z g23) (tgt := 11) dX10_wouldBe_5 (by decide) (fun q55 => ?_) (fun q55 => ?_)
  · replace h := h.2 q55
    refine J_iconst C dX10_wouldBe_11 ?_
    refine J_istore_n C dX10_wouldBe_12 rfl (by decide) (lv' := [(3, .int (jI 0)), (0, .ref (adE E 279)), (1, .int (jI x1)), (2, .int (jI x2))]) rfl ?_
    refine J_iconst C dX10_wouldBe_13 ?_
    refine J_istore C dX10_wouldBe_14 (by decide) (lv' := [(4, .int (jI 0)), (3, .int (jI 0)), (0, .ref (adE E 279)), (1, .int (jI x1)), (2, .int (jI x2))]) rfl ?_
    refine J_iconst C dX10_wouldBe_16 ?_
    refine J_istore C dX10_wouldBe_17 (by decide) (lv' := [(5, .int (jI 0)), (4, .int (jI 0)), (3, .int (jI 0)), (0, .ref (adE E 279)), (1, .int (jI x1)), (2, .int (jI x2))]) rfl ?_
    refine J_iconst C dX10_wouldBe_19 ?_
    refine J_istore C dX10_wouldBe_20 (by decide) (lv' := [(6, .int (jI 0)), (5, .int (jI 0)), (4, .int (jI 0)), (3, .int (jI 0)), (0, .ref (adE E 279)), (1, .int (jI x1)), (2, .int (jI x2))]) rfl ?_
    replace h := h (fun (x3_22 : Int) (x4_22 : Int) (x5_22 : Int) (x6_22 : Int) => rgI x3_22 → rgI x4_22 → rgI x5_22 → rgI x6_22 → JJ F E 0 0 s22 22 [(0, .ref (adE E 279)), (2, .int (jI x2)), (3, .int (jI x3_22)), (4, .int (jI x4_22)), (5, .int (jI x5_22)), (6, .int (jI x6_22))] []) (by
      intro x3_22 x4_22 x5_22 x6_22 h g3_22 g4_22 g5_22 g6_22
      have j92 : ∀ (x3 : Int) (x4 : Int) (x6 : Int) (t0 : Int), wj_X10_wouldBe_92 (fun (x3_22 : Int) (x4_22 : Int) (x5_22 : Int) (x6_22 : Int) => rgI x3_22 → rgI x4_22 → rgI x5_22 → rgI x6_22 → JJ F E 0 0 s22 22 [(0, .ref (adE E 279)), (2, .int (jI x2)), (3, .int (jI x3_22)), (4, .int (jI x4_22)), (5, .int (jI x5_22)), (6, .int (jI x6_22))] []) x2 x3 x4 x6 t0 s22 Q → rgI x3 → rgI x4 → rgI x6 → rgI t0 → JJ F E 0 0 s22 92 [(0, .ref (adE E 279)), (2, .int (jI x2)), (3, .int (jI x3)), (4, .int (jI x4)), (6, .int (jI x6))] [.int (jI t0)] := by
        intro x3 x4 x6 t0 h g3 g4 g6 gt0
        refine J_istore C dX10_wouldBe_92 (by decide) (lv' := [(5, .int (jI t0)), (0, .ref (adE E 279)), (2, .int (jI x2)), (3, .int (jI x3)), (4, .int (jI x4)), (6, .int (jI x6))]) rfl ?_
        refine J_iinc C dX10_wouldBe_94 5 rfl (by decide) (lv' := [(6, .int (jI (x6 + 1))), (5, .int (jI t0)), (0, .ref (adE E 279)), (2, .int (jI x2)), (3, .int (jI x3)), (4, .int (jI x4))]) rfl ?_
        refine J_goto C (tgt := 22) dX10_wouldBe_97 (by decide) ?_
        obtain ⟨g48, h⟩ := h
        exact J_sub [2, 3, 4, 5, 1, 0] rfl (h g3 g4 gt0 g48)
      have j65 : ∀ (x3 : Int) (x5 : Int) (x6 : Int) (t0 : Int) (t1 : Int), wj_X10_wouldBe_65 (fun (x3_22 : Int) (x4_22 : Int) (x5_22 : Int) (x6_22 : Int) => rgI x3_22 → rgI x4_22 → rgI x5_22 → rgI x6_22 → JJ F E 0 0 s22 22 [(0, .ref (adE E 279)), (2, .int (jI x2)), (3, .int (jI x3_22)), (4, .int (jI x4_22)), (5, .int (jI x5_22)), (6, .int (jI x6_22))] []) x2 x3 x5 x6 t0 t1 s22 Q → rgI x3 → rgI x5 → rgI x6 → rgI t0 → rgI t1 → JJ F E 0 0 s22 65 [(0, .ref (adE E 279)), (2, .int (jI x2)), (3, .int (jI x3)), (5, .int (jI x5)), (6, .int (jI x6))] [.int (jI t0), .int (jI t1)] := by
        intro x3 x5 x6 t0 t1 h g3 g5 g6 gt0 gt1
        refine J_iadd C dX10_wouldBe_65 ?_
        obtain ⟨x4_66, e44⟩ : ∃ v : Int, v = (t1 + t0) := ⟨_, rfl⟩
        obtain ⟨g4_66, h⟩ := h x4_66 e44
        refine J_top e44 ?_
        refine J_istore C dX10_wouldBe_66 (by decide) (lv' := [(4, .int (jI x4_66)), (0, .ref (adE E 279)), (2, .int (jI x2)), (3, .int (jI x3)), (5, .int (jI x5)), (6, .int (jI x6))]) rfl ?_
        refine J_aload_n C dX10_wouldBe_68 rfl 1 rfl ?_
        refine gf_X10_ends C hs wf_X10_19 dX10_wouldBe_69 ?_
        refine J_iload C dX10_wouldBe_72 5 rfl ?_
        obtain ⟨b45, b46, h⟩ := h
        refine J_iald C (dmM hs kc283 (by decide)) (n := 16) (clE_k E s22 kc283) (by decide) b45 b46 dX10_wouldBe_74 (fun g47 => ?_)
        refine J_iload C dX10_wouldBe_75 4 rfl ?_
        refine J_icmp_le C g47 g5 (tgt := 90) dX10_wouldBe_77 (by decide) (fun q52 => ?_) (fun q52 => ?_)
        · replace h := h.1 q52
          refine J_iload C dX10_wouldBe_90 4 rfl ?_
          exact J_sub [1, 2, 3, 0, 5] rfl (j92 _ _ _ _ h g3 g4_66 g6 g5)
        · replace h := h.2 q52
          refine J_aload_n C dX10_wouldBe_80 rfl 1 rfl ?_
          refine gf_X10_ends C hs wf_X10_19 dX10_wouldBe_81 ?_
          refine J_iload C dX10_wouldBe_84 5 rfl ?_
          obtain ⟨b49, b50, h⟩ := h
          refine J_iald C (dmM hs kc283 (by decide)) (n := 16) (clE_k E s22 kc283) (by decide) b49 b50 dX10_wouldBe_86 (fun g51 => ?_)
          refine J_goto C (tgt := 92) dX10_wouldBe_87 (by decide) ?_
          exact J_sub [1, 2, 3, 0, 5] rfl (j92 _ _ _ _ h g3 g4_66 g6 g51)
      refine J_iload C dX10_wouldBe_22 5 rfl ?_
      refine J_aload_n C dX10_wouldBe_24 rfl 0 rfl ?_
      refine gf_X10_many C hs wf_X10_84 dX10_wouldBe_25 (fun g26 => ?_)
      refine J_icmp_ge C g6_22 g26 (tgt := 100) dX10_wouldBe_28 (by decide) (fun q54 => ?_) (fun q54 => ?_)
      · replace h := h.1 q54
        refine J_iload_n C dX10_wouldBe_100 rfl 1 rfl ?_
        refine J_if_ne C g2 (tgt := 111) dX10_wouldBe_101 (by decide) (fun q32 => ?_) (fun q32 => ?_)
        · replace h := h.2 q32
          refine J_iload_n C dX10_wouldBe_111 rfl 1 rfl ?_
          refine J_iconst C dX10_wouldBe_112 ?_
          refine J_icmp_ne C g2 (rgN 1 (by decide)) (tgt := 120) dX10_wouldBe_113 (by decide) (fun q30 => ?_) (fun q30 => ?_)
          · replace h := h.2 q30
            refine J_iload_n C dX10_wouldBe_120 rfl 1 rfl ?_
            refine J_iconst C dX10_wouldBe_121 ?_
            refine J_icmp_ne C g2 (rgN 2 (by decide)) (tgt := 130) dX10_wouldBe_122 (by decide) (fun q29 => ?_) (fun q29 => ?_)
            · replace h := h.2 q29
              refine J_iload_n C dX10_wouldBe_130 rfl 1 rfl ?_
              refine J_iconst C dX10_wouldBe_131 ?_
              refine J_icmp_ne C g2 (rgN 3 (by decide)) (tgt := 140) dX10_wouldBe_132 (by decide) (fun q28 => ?_) (fun q28 => ?_)
              · replace h := h.2 q28
                refine J_aload_n C dX10_wouldBe_140 rfl 0 rfl ?_
                refine gf_X10_lost C hs wf_X10_142 dX10_wouldBe_141 (fun g27 => ?_)
                exact J_iret C (Nat.zero_le _) (Nat.zero_le _) dX10_wouldBe_144 (by rw [hF]; exact ⟨_, rfl, g27, h, n25⟩)
              · replace h := h.1 q28
                refine J_iload C dX10_wouldBe_135 4 rfl ?_
                refine J_goto C (tgt := 144) dX10_wouldBe_137 (by decide) ?_
                exact J_iret C (Nat.zero_le _) (Nat.zero_le _) dX10_wouldBe_144 (by rw [hF]; exact ⟨_, rfl, g5_22, h, n25⟩)
            · replace h := h.1 q29
              refine J_iload C dX10_wouldBe_125 3 rfl ?_
              refine J_goto C (tgt := 144) dX10_wouldBe_127 (by decide) ?_
              exact J_iret C (Nat.zero_le _) (Nat.zero_le _) dX10_wouldBe_144 (by rw [hF]; exact ⟨_, rfl, g4_22, h, n25⟩)
          · replace h := h.1 q30
            refine J_iload_n C dX10_wouldBe_116 rfl 2 rfl ?_
            refine J_goto C (tgt := 144) dX10_wouldBe_117 (by decide) ?_
            exact J_iret C (Nat.zero_le _) (Nat.zero_le _) dX10_wouldBe_144 (by rw [hF]; exact ⟨_, rfl, g3_22, h, n25⟩)
        · replace h := h.1 q32
          refine J_aload_n C dX10_wouldBe_104 rfl 0 rfl ?_
          refine gf_X10_many C hs wf_X10_84 dX10_wouldBe_105 (fun g31 => ?_)
          refine J_goto C (tgt := 144) dX10_wouldBe_108 (by decide) ?_
          exact J_iret C (Nat.zero_le _) (Nat.zero_le _) dX10_wouldBe_144 (by rw [hF]; exact ⟨_, rfl, g31, h, n25⟩)
      · replace h := h.2 q54
        refine J_iload_n C dX10_wouldBe_31 rfl 2 rfl ?_
        refine J_aload_n C dX10_wouldBe_32 rfl 0 rfl ?_
        refine gf_X10_ends C hs wf_X10_19 dX10_wouldBe_33 ?_
        refine J_iload C dX10_wouldBe_36 5 rfl ?_
        obtain ⟨b33, b34, h⟩ := h
        refine J_iald C (dmM hs kc283 (by decide)) (n := 16) (clE_k E s22 kc283) (by decide) b33 b34 dX10_wouldBe_38 (fun g35 => ?_)
        refine J_aload_n C dX10_wouldBe_39 rfl 0 rfl ?_
        refine gf_X10_begins C hs wf_X10_16 dX10_wouldBe_40 ?_
        refine J_iload C dX10_wouldBe_43 5 rfl ?_
        obtain ⟨b36, b37, h⟩ := h
        refine J_iald C (dmM hs kc282 (by decide)) (n := 16) (clE_k E s22 kc282) (by decide) b36 b37 dX10_wouldBe_45 (fun g38 => ?_)
        refine J_isub C dX10_wouldBe_46 ?_
        refine J_iadd C dX10_wouldBe_47 ?_
        obtain ⟨x3_48, e39⟩ : ∃ v : Int, v = (x3_22 + ((gI s22 283 x6_22) - (gI s22 282 x6_22))) := ⟨_, rfl⟩
        obtain ⟨g3_48, h⟩ := h x3_48 e39
        refine J_top e39 ?_
        refine J_istore_n C dX10_wouldBe_48 rfl (by decide) (lv' := [(3, .int (jI x3_48)), (0, .ref (adE E 279)), (2, .int (jI x2)), (4, .int (jI x4_22)), (5, .int (jI x5_22)), (6, .int (jI x6_22))]) rfl ?_
        refine J_iload C dX10_wouldBe_49 3 rfl ?_
        refine J_aload_n C dX10_wouldBe_51 rfl 1 rfl ?_
        refine J_iload C dX10_wouldBe_52 5 rfl ?_
        refine J_V C (ct_X10_faultsOf hs g6_22 h) ck_X10_faultsOf wm_X10_193 win_X10_faultsOf wsel_X10_faultsOf (dmM hs kc279 (by decide)) (clE_k E s22 kc279) rfl ⟨rfl, rfl⟩ (by decide) (by decide) (As := [.int (jI x6_22)]) (rest := [.int (jI x4_22)]) rfl rfl (Nat.le_of_ble_eq_true rfl) dX10_wouldBe_54 (J_pI (fun v40 g42 h => ?_))
        refine J_if_le C g42 (tgt := 64) dX10_wouldBe_57 (by decide) (fun q53 => ?_) (fun q53 => ?_)
        · replace h := h.1 q53
          refine J_iconst C dX10_wouldBe_64 ?_
          exact J_sub [1, 2, 0, 4, 5] rfl (j65 _ _ _ _ _ h g3_48 g5_22 g6_22 (rgN 0 (by decide)) g4_22)
        · replace h := h.2 q53
          refine J_iconst C dX10_wouldBe_60 ?_
          refine J_goto C (tgt := 65) dX10_wouldBe_61 (by decide) ?_
          exact J_sub [1, 2, 0, 4, 5] rfl (j65 _ _ _ _ _ h g3_48 g5_22 g6_22 (rgN 1 (by decide)) g4_22)
    )
    exact J_sub [4, 6, 3, 2, 1, 0] rfl (h (rgN 0 (by decide)) (rgN 0 (by decide)) (rgN 0 (by decide)) (rgN 0 (by decide)))
  · replace h := h.1 q55
    refine J_bipush C dX10_wouldBe_8 (by decide) ?_
    exact J_iret C (Nat.zero_le _) (Nat.zero_le _) dX10_wouldBe_10 (by rw [hF]; exact ⟨_, rfl, (rgN (-3) (by decide)), h, n25⟩)
set_option maxHeartbeats 4000000 in
set_option maxRecDepth 100000 in
theorem ct_X10_ifConform {l : Launch} {E : ET} (hs : eS E = false) {s : Sg} {x1 : Int} (g1 : rgI x1) {x2 : Int} (g2 : rgI x2) {Q : Int → Sg → Prop} (h : wp_X10_ifConform x1 x2 s Q) : MetE l E yX10_ifConform cX10_ifConform 3 (some .int) rm_X10_ifConform s [.ref (adE E 279), .int (jI x1), .int (jI x2)] (qI Q (gN s)) := by
  refine MetJ (by decide +kernel) (Nat.le_of_ble_eq_true rfl) ?_
  intro F hl C hF
  subst hl
  show JJ F E 0 0 s 0 [(0, .ref (adE E 279)), (1, .int (jI x1)), (2, .int (jI x2))] []
  refine J_iload_n C dX10_ifConform_0 rfl 1 rfl ?_
  refine J_iconst C dX10_ifConform_1 ?_
  refine J_bipush C dX10_ifConform_2 (by decide) ?_
  refine J_S C (ct_X10_in hs g1 (rgN 1 (by decide)) (rgN 31 (by decide)) h) ck_X10_in wm_X10_60 wst_X10_in ⟨rfl, rfl⟩ (by decide) (by decide) (As := [.int (jI x1), .int (jI 1), .int (jI 31)]) (rest := []) rfl rfl (Nat.le_of_ble_eq_true rfl) dX10_ifConform_4 (J_pZ (fun v21 g23 h => ?_))
  refine J_if_eq C (rg_z g23) (tgt := 28) dX10_ifConform_7 (by decide) (fun q35 => ?_) (fun q35 => ?_)
  · replace h := h.1 q35
    refine J_iconst C dX10_ifConform_28 ?_
    exact J_iret C (Nat.zero_le _) (Nat.zero_le _) dX10_ifConform_29 (by rw [hF]; exact ⟨_, rfl, (rgN (-1) (by decide)), h, rfl⟩)
  · replace h := h.2 q35
    refine J_iload_n C dX10_ifConform_10 rfl 2 rfl ?_
    refine J_iconst C dX10_ifConform_11 ?_
    refine J_iconst C dX10_ifConform_12 ?_
    refine J_S C (ct_X10_in hs g2 (rgN 0 (by decide)) (rgN 4 (by decide)) h) ck_X10_in wm_X10_60 wst_X10_in ⟨rfl, rfl⟩ (by decide) (by decide) (As := [.int (jI x2), .int (jI 0), .int (jI 4)]) (rest := []) rfl rfl (Nat.le_of_ble_eq_true rfl) dX10_ifConform_13 (J_pZ (fun v25 g27 h => ?_))
    refine J_if_eq C (rg_z g27) (tgt := 28) dX10_ifConform_16 (by decide) (fun q34 => ?_) (fun q34 => ?_)
    · replace h := h.1 q34
      refine J_iconst C dX10_ifConform_28 ?_
      exact J_iret C (Nat.zero_le _) (Nat.zero_le _) dX10_ifConform_29 (by rw [hF]; exact ⟨_, rfl, (rgN (-1) (by decide)), h, rfl⟩)
    · replace h := h.2 q34
      refine J_aload_n C dX10_ifConform_19 rfl 0 rfl ?_
      refine J_iload_n C dX10_ifConform_20 rfl 1 rfl ?_
      refine J_iload_n C dX10_ifConform_21 rfl 2 rfl ?_
      refine J_V C (ct_X10_wouldBe hs g1 g2 h) ck_X10_wouldBe wm_X10_205 win_X10_wouldBe wsel_X10_wouldBe (dmM hs kc279 (by decide)) (clE_k E s kc279) rfl ⟨rfl, rfl⟩ (by decide) (by decide) (As := [.int (jI x1), .int (jI x2)]) (rest := []) rfl rfl (Nat.le_of_ble_eq_true rfl) dX10_ifConform_22 (J_kI (fun v29 s30 g31 h n32 => ?_))
      have n33 : gN s30 = gN s := n32
      refine J_goto C (tgt := 29) dX10_ifConform_25 (by decide) ?_
      exact J_iret C (Nat.zero_le _) (Nat.zero_le _) dX10_ifConform_29 (by rw [hF]; exact ⟨_, rfl, g31, h, n33⟩)
set_option maxHeartbeats 4000000 in
set_option maxRecDepth 100000 in
theorem ct_X10_stretches {l : Launch} {E : ET} (hs : eS E = false) {s : Sg} {x1 : Int} (g1 : rgI x1) {Q : Int → Sg → Prop} (h : wp_X10_stretches x1 s Q) : MetE l E yX10_stretches cX10_stretches 2 (some .int) rm_X10_stretches s [.ref (adE E 279), .int (jI x1)] (qI Q (gN s)) := by
  refine MetJ (by decide +kernel) (Nat.le_of_ble_eq_true rfl) ?_
  intro F hl C hF
  subst hl
  show JJ F E 0 0 s 0 [(0, .ref (adE E 279)), (1, .int (jI x1))] []
  refine J_aload_n C dX10_stretches_0 rfl 0 rfl ?_
  refine J_iload_n C dX10_stretches_1 rfl 1 rfl ?_
  refine J_V C (ct_X10_isSubtitle hs g1 h) ck_X10_isSubtitle wm_X10_190 win_X10_isSubtitle wsel_X10_isSubtitle (dmM hs kc279 (by decide)) (clE_k E s kc279) rfl ⟨rfl, rfl⟩ (by decide) (by decide) (As := [.int (jI x1)]) (rest := []) rfl rfl (Nat.le_of_ble_eq_true rfl) dX10_stretches_2 (J_pZ (fun v21 g23 h => ?_))
  refine J_if_ne C (rg_z g23) (tgt := 10) dX10_stretches_5 (by decide) (fun q45 => ?_) (fun q45 => ?_)
  · replace h := h.2 q45
    refine J_aload_n C dX10_stretches_10 rfl 0 rfl ?_
    refine J_aload_n C dX10_stretches_11 rfl 0 rfl ?_
    refine gf_X10_page C hs wf_X10_7 dX10_stretches_12 ?_
    refine J_aload_n C dX10_stretches_15 rfl 0 rfl ?_
    refine J_iload_n C dX10_stretches_16 rfl 1 rfl ?_
    refine J_V C (ct_X10_at hs g1 h) ck_X10_at wm_X10_81 win_X10_at wsel_X10_at (dmM hs kc279 (by decide)) (clE_k E s kc279) rfl ⟨rfl, rfl⟩ (by decide) (by decide) (As := [.int (jI x1)]) (rest := [.ref (adE E 280), .ref (adE E 279)]) rfl rfl (Nat.le_of_ble_eq_true rfl) dX10_stretches_17 (J_pI (fun v25 g27 h => ?_))
    obtain ⟨b29, b30, h⟩ := h
    refine J_iald C (dmM hs kc280 (by decide)) (n := 12960) (clE_k E s kc280) (by decide) b29 b30 dX10_stretches_20 (fun g31 => ?_)
    refine J_aload_n C dX10_stretches_21 rfl 0 rfl ?_
    refine gf_X10_page C hs wf_X10_7 dX10_stretches_22 ?_
    refine J_aload_n C dX10_stretches_25 rfl 0 rfl ?_
    refine J_iload_n C dX10_stretches_26 rfl 1 rfl ?_
    refine J_V C (ct_X10_at hs g1 h) ck_X10_at wm_X10_81 win_X10_at wsel_X10_at (dmM hs kc279 (by decide)) (clE_k E s kc279) rfl ⟨rfl, rfl⟩ (by decide) (by decide) (As := [.int (jI x1)]) (rest := [.ref (adE E 280), .int (jI (gI s 280 v25)), .ref (adE E 279)]) rfl rfl (Nat.le_of_ble_eq_true rfl) dX10_stretches_27 (J_pI (fun v32 g34 h => ?_))
    refine J_iconst C dX10_stretches_30 ?_
    refine J_iadd C dX10_stretches_31 ?_
    obtain ⟨b36, b37, h⟩ := h
    refine J_iald C (dmM hs kc280 (by decide)) (n := 12960) (clE_k E s kc280) (by decide) b36 b37 dX10_stretches_32 (fun g38 => ?_)
    refine J_iload_n C dX10_stretches_33 rfl 1 rfl ?_
    refine J_iconst C dX10_stretches_34 ?_
    refine J_V C (ct_X10_stretchesOf hs g31 g38 g1 (rgN 0 (by decide)) h) ck_X10_stretchesOf wm_X10_145 win_X10_stretchesOf wsel_X10_stretchesOf (dmM hs kc279 (by decide)) (clE_k E s kc279) rfl ⟨rfl, rfl⟩ (by decide) (by decide) (As := [.int (jI (gI s 280 v25)), .int (jI (gI s 280 (v32 + 1))), .int (jI x1), .int (jI 0)]) (rest := []) rfl rfl (Nat.le_of_ble_eq_true rfl) dX10_stretches_35 (J_kZ (fun v39 s40 g41 h n42 => ?_))
    have n43 : gN s40 = gN s := n42
    refine J_pop C dX10_stretches_38 rfl ?_
    refine J_aload_n C dX10_stretches_39 rfl 0 rfl ?_
    refine gf_X10_stretchesMany C hs wf_X10_132 dX10_stretches_40 (fun g44 => ?_)
    exact J_iret C (Nat.zero_le _) (Nat.zero_le _) dX10_stretches_43 (by rw [hF]; exact ⟨_, rfl, g44, h, n43⟩)
  · replace h := h.1 q45
    refine J_iconst C dX10_stretches_8 ?_
    exact J_iret C (Nat.zero_le _) (Nat.zero_le _) dX10_stretches_9 (by rw [hF]; exact ⟨_, rfl, (rgN (-1) (by decide)), h, rfl⟩)
set_option maxHeartbeats 4000000 in
set_option maxRecDepth 100000 in
theorem ct_X10_shown {l : Launch} {E : ET} (hs : eS E = false) {s : Sg} {x1 : Int} (g1 : rgI x1) {Q : Int → Sg → Prop} (h : wp_X10_shown x1 s Q) : MetE l E yX10_shown cX10_shown 4 (some .int) rm_X10_shown s [.ref (adE E 279), .int (jI x1)] (qI Q (gN s)) := by
  refine MetJ (by decide +kernel) (Nat.le_of_ble_eq_true rfl) ?_
  intro F hl C hF
  subst hl
  show JJ F E 0 0 s 0 [(0, .ref (adE E 279)), (1, .int (jI x1))] []
  refine J_iload_n C dX10_shown_0 rfl 1 rfl ?_
  refine J_iconst C dX10_shown_1 ?_
  refine J_sipush C dX10_shown_2 (by decide) ?_
  refine J_S C (ct_X10_in hs g1 (rgN 0 (by decide)) (rgN 9999 (by decide)) h) ck_X10_in wm_X10_60 wst_X10_in ⟨rfl, rfl⟩ (by decide) (by decide) (As := [.int (jI x1), .int (jI 0), .int (jI 9999)]) (rest := []) rfl rfl (Nat.le_of_ble_eq_true rfl) dX10_shown_5 (J_pZ (fun v21 g23 h => ?_))
  refine J_if_ne C (rg_z g23) (tgt := 13) dX10_shown_8 (by decide) (fun q42 => ?_) (fun q42 => ?_)
  · replace h := h.2 q42
    refine J_aload_n C dX10_shown_13 rfl 0 rfl ?_
    refine J_V C (ct_X10_takes hs h) ck_X10_takes wm_X10_155 win_X10_takes wsel_X10_takes (dmM hs kc279 (by decide)) (clE_k E s kc279) rfl ⟨rfl, rfl⟩ (by decide) (by decide) (As := []) (rest := []) rfl rfl (Nat.le_of_ble_eq_true rfl) dX10_shown_14 (J_kV (fun s26 h n28 => ?_))
    have n29 : gN s26 = gN s := n28
    refine J_iconst C dX10_shown_17 ?_
    refine J_istore_n C dX10_shown_18 rfl (by decide) (lv' := [(2, .int (jI 0)), (0, .ref (adE E 279)), (1, .int (jI x1))]) rfl ?_
    refine J_iconst C dX10_shown_19 ?_
    refine J_istore_n C dX10_shown_20 rfl (by decide) (lv' := [(3, .int (jI 0)), (2, .int (jI 0)), (0, .ref (adE E 279)), (1, .int (jI x1))]) rfl ?_
    replace h := h (fun (x2_21 : Int) (x3_21 : Int) => rgI x2_21 → rgI x3_21 → JJ F E 0 0 s26 21 [(0, .ref (adE E 279)), (1, .int (jI x1)), (2, .int (jI x2_21)), (3, .int (jI x3_21))] []) (by
      intro x2_21 x3_21 h g2_21 g3_21
      have j57 : ∀ (x3 : Int) (t0 : Int) (t1 : Int), wj_X10_shown_57 (fun (x2_21 : Int) (x3_21 : Int) => rgI x2_21 → rgI x3_21 → JJ F E 0 0 s26 21 [(0, .ref (adE E 279)), (1, .int (jI x1)), (2, .int (jI x2_21)), (3, .int (jI x3_21))] []) x1 x3 t0 t1 s26 Q → rgI x3 → rgI t0 → rgI t1 → JJ F E 0 0 s26 57 [(0, .ref (adE E 279)), (1, .int (jI x1)), (3, .int (jI x3))] [.int (jI t0), .int (jI t1)] := by
        intro x3 t0 t1 h g3 gt0 gt1
        refine J_ior C dX10_shown_57 ?_
        obtain ⟨x2_58, e34⟩ : ∃ v : Int, v = (jOr t1 t0) := ⟨_, rfl⟩
        replace h := h x2_58 e34
        have g2_58 : rgI x2_58 := by rw [e34]; exact (rg_or _ _)
        refine J_top e34 ?_
        refine J_istore_n C dX10_shown_58 rfl (by decide) (lv' := [(2, .int (jI x2_58)), (0, .ref (adE E 279)), (1, .int (jI x1)), (3, .int (jI x3))]) rfl ?_
        refine J_iinc C dX10_shown_59 3 rfl (by decide) (lv' := [(3, .int (jI (x3 + 1))), (2, .int (jI x2_58)), (0, .ref (adE E 279)), (1, .int (jI x1))]) rfl ?_
        refine J_goto C (tgt := 21) dX10_shown_62 (by decide) ?_
        obtain ⟨g35, h⟩ := h
        exact J_sub [2, 3, 1, 0] rfl (h g2_58 g35)
      have j56 : ∀ (x3 : Int) (t0 : Int), wj_X10_shown_56 (fun (x2_21 : Int) (x3_21 : Int) => rgI x2_21 → rgI x3_21 → JJ F E 0 0 s26 21 [(0, .ref (adE E 279)), (1, .int (jI x1)), (2, .int (jI x2_21)), (3, .int (jI x3_21))] []) x1 x3 t0 s26 Q → rgI x3 → rgI t0 → JJ F E 0 0 s26 56 [(0, .ref (adE E 279)), (1, .int (jI x1)), (3, .int (jI x3))] [.int (jI t0)] := by
        intro x3 t0 h g3 gt0
        refine J_iconst C dX10_shown_56 ?_
        exact J_sub [0, 1, 2] rfl (j57 _ _ _ h g3 (rgN 0 (by decide)) gt0)
      refine J_iload_n C dX10_shown_21 rfl 3 rfl ?_
      refine J_aload_n C dX10_shown_22 rfl 0 rfl ?_
      refine gf_X10_many C hs wf_X10_84 dX10_shown_23 (fun g30 => ?_)
      refine J_icmp_ge C g3_21 g30 (tgt := 65) dX10_shown_26 (by decide) (fun q41 => ?_) (fun q41 => ?_)
      · replace h := h.1 q41
        refine J_iload_n C dX10_shown_65 rfl 2 rfl ?_
        exact J_iret C (Nat.zero_le _) (Nat.zero_le _) dX10_shown_66 (by rw [hF]; exact ⟨_, rfl, g2_21, h, n29⟩)
      · replace h := h.2 q41
        refine J_iload_n C dX10_shown_29 rfl 2 rfl ?_
        refine J_aload_n C dX10_shown_30 rfl 0 rfl ?_
        refine gf_X10_begins C hs wf_X10_16 dX10_shown_31 ?_
        refine J_iload_n C dX10_shown_34 rfl 3 rfl ?_
        obtain ⟨b31, b32, h⟩ := h
        refine J_iald C (dmM hs kc282 (by decide)) (n := 16) (clE_k E s26 kc282) (by decide) b31 b32 dX10_shown_35 (fun g33 => ?_)
        refine J_iload_n C dX10_shown_36 rfl 1 rfl ?_
        refine J_icmp_gt C g33 g1 (tgt := 56) dX10_shown_37 (by decide) (fun q40 => ?_) (fun q40 => ?_)
        · replace h := h.1 q40
          exact J_sub [0, 1, 3] rfl (j56 _ _ h g3_21 g2_21)
        · replace h := h.2 q40
          refine J_iload_n C dX10_shown_40 rfl 1 rfl ?_
          refine J_aload_n C dX10_shown_41 rfl 0 rfl ?_
          refine gf_X10_ends C hs wf_X10_19 dX10_shown_42 ?_
          refine J_iload_n C dX10_shown_45 rfl 3 rfl ?_
          obtain ⟨b36, b37, h⟩ := h
          refine J_iald C (dmM hs kc283 (by decide)) (n := 16) (clE_k E s26 kc283) (by decide) b36 b37 dX10_shown_46 (fun g38 => ?_)
          refine J_icmp_ge C g1 g38 (tgt := 56) dX10_shown_47 (by decide) (fun q39 => ?_) (fun q39 => ?_)
          · replace h := h.1 q39
            exact J_sub [0, 1, 3] rfl (j56 _ _ h g3_21 g2_21)
          · replace h := h.2 q39
            refine J_iconst C dX10_shown_50 ?_
            refine J_iload_n C dX10_shown_51 rfl 3 rfl ?_
            refine J_ishl C dX10_shown_52 ?_
            refine J_goto C (tgt := 57) dX10_shown_53 (by decide) ?_
            exact J_sub [0, 1, 3] rfl (j57 _ _ _ h g3_21 (rg_shl _ _) g2_21)
    )
    exact J_sub [2, 3, 1, 0] rfl (h (rgN 0 (by decide)) (rgN 0 (by decide)))
  · replace h := h.1 q42
    refine J_iconst C dX10_shown_11 ?_
    exact J_iret C (Nat.zero_le _) (Nat.zero_le _) dX10_shown_12 (by rw [hF]; exact ⟨_, rfl, (rgN (-1) (by decide)), h, rfl⟩)
set_option maxHeartbeats 4000000 in
set_option maxRecDepth 100000 in
theorem ct_X10_faultsMany {l : Launch} {E : ET} (hs : eS E = false) {s : Sg} {x1 : Int} (g1 : rgI x1) {Q : Int → Sg → Prop} (h : wp_X10_faultsMany x1 s Q) : MetE l E yX10_faultsMany cX10_faultsMany 5 (some .int) rm_X10_faultsMany s [.ref (adE E 279), .int (jI x1)] (qI Q (gN s)) := by
  refine MetJ (by decide +kernel) (Nat.le_of_ble_eq_true rfl) ?_
  intro F hl C hF
  subst hl
  show JJ F E 0 0 s 0 [(0, .ref (adE E 279)), (1, .int (jI x1))] []
  refine J_aload_n C dX10_faultsMany_0 rfl 0 rfl ?_
  refine J_V C (ct_X10_takes hs h) ck_X10_takes wm_X10_155 win_X10_takes wsel_X10_takes (dmM hs kc279 (by decide)) (clE_k E s kc279) rfl ⟨rfl, rfl⟩ (by decide) (by decide) (As := []) (rest := []) rfl rfl (Nat.le_of_ble_eq_true rfl) dX10_faultsMany_1 (J_kV (fun s22 h n24 => ?_))
  have n25 : gN s22 = gN s := n24
  refine J_iconst C dX10_faultsMany_4 ?_
  refine J_istore_n C dX10_faultsMany_5 rfl (by decide) (lv' := [(2, .int (jI 0)), (0, .ref (adE E 279)), (1, .int (jI x1))]) rfl ?_
  refine J_iconst C dX10_faultsMany_6 ?_
  refine J_istore_n C dX10_faultsMany_7 rfl (by decide) (lv' := [(3, .int (jI 0)), (2, .int (jI 0)), (0, .ref (adE E 279)), (1, .int (jI x1))]) rfl ?_
  replace h := h (fun (x2_8 : Int) (x3_8 : Int) => rgI x2_8 → rgI x3_8 → JJ F E 0 0 s22 8 [(0, .ref (adE E 279)), (1, .int (jI x1)), (2, .int (jI x2_8)), (3, .int (jI x3_8))] []) (by
    intro x2_8 x3_8 h g2_8 g3_8
    have j53 : ∀ (x3 : Int) (t0 : Int) (t1 : Int), wj_X10_faultsMany_53 (fun (x2_8 : Int) (x3_8 : Int) => rgI x2_8 → rgI x3_8 → JJ F E 0 0 s22 8 [(0, .ref (adE E 279)), (1, .int (jI x1)), (2, .int (jI x2_8)), (3, .int (jI x3_8))] []) x1 x3 t0 t1 s22 Q → rgI x3 → rgI t0 → rgI t1 → JJ F E 0 0 s22 53 [(0, .ref (adE E 279)), (1, .int (jI x1)), (3, .int (jI x3))] [.int (jI t0), .int (jI t1)] := by
      intro x3 t0 t1 h g3 gt0 gt1
      refine J_iadd C dX10_faultsMany_53 ?_
      obtain ⟨x2_54, e31⟩ : ∃ v : Int, v = (t1 + t0) := ⟨_, rfl⟩
      obtain ⟨g2_54, h⟩ := h x2_54 e31
      refine J_top e31 ?_
      refine J_istore_n C dX10_faultsMany_54 rfl (by decide) (lv' := [(2, .int (jI x2_54)), (0, .ref (adE E 279)), (1, .int (jI x1)), (3, .int (jI x3))]) rfl ?_
      refine J_iinc C dX10_faultsMany_55 3 rfl (by decide) (lv' := [(3, .int (jI (x3 + 1))), (2, .int (jI x2_54)), (0, .ref (adE E 279)), (1, .int (jI x1))]) rfl ?_
      refine J_goto C (tgt := 8) dX10_faultsMany_58 (by decide) ?_
      obtain ⟨g32, h⟩ := h
      exact J_sub [2, 3, 1, 0] rfl (h g2_54 g32)
    refine J_iload_n C dX10_faultsMany_8 rfl 3 rfl ?_
    refine J_aload_n C dX10_faultsMany_9 rfl 0 rfl ?_
    refine gf_X10_many C hs wf_X10_84 dX10_faultsMany_10 (fun g26 => ?_)
    refine J_icmp_ge C g3_8 g26 (tgt := 61) dX10_faultsMany_13 (by decide) (fun q36 => ?_) (fun q36 => ?_)
    · replace h := h.1 q36
      refine J_iload_n C dX10_faultsMany_61 rfl 2 rfl ?_
      exact J_iret C (Nat.zero_le _) (Nat.zero_le _) dX10_faultsMany_62 (by rw [hF]; exact ⟨_, rfl, g2_8, h, n25⟩)
    · replace h := h.2 q36
      refine J_aload_n C dX10_faultsMany_16 rfl 0 rfl ?_
      refine J_iload_n C dX10_faultsMany_17 rfl 3 rfl ?_
      refine J_V C (ct_X10_faultsOf hs g3_8 h) ck_X10_faultsOf wm_X10_193 win_X10_faultsOf wsel_X10_faultsOf (dmM hs kc279 (by decide)) (clE_k E s22 kc279) rfl ⟨rfl, rfl⟩ (by decide) (by decide) (As := [.int (jI x3_8)]) (rest := []) rfl rfl (Nat.le_of_ble_eq_true rfl) dX10_faultsMany_18 (J_pI (fun v27 g29 h => ?_))
      refine J_istore C dX10_faultsMany_21 (by decide) (lv' := [(4, .int (jI v27)), (0, .ref (adE E 279)), (1, .int (jI x1)), (2, .int (jI x2_8)), (3, .int (jI x3_8))]) rfl ?_
      refine J_iload_n C dX10_faultsMany_23 rfl 3 rfl ?_
      refine J_iload_n C dX10_faultsMany_24 rfl 2 rfl ?_
      refine J_if_ne C g1 (tgt := 41) dX10_faultsMany_25 (by decide) (fun q35 => ?_) (fun q35 => ?_)
      · replace h := h.2 q35
        refine J_iload C dX10_faultsMany_41 0 rfl ?_
        refine J_iload_n C dX10_faultsMany_43 rfl 2 rfl ?_
        refine J_iand C dX10_faultsMany_44 ?_
        refine J_if_le C (rg_and _ _) (tgt := 52) dX10_faultsMany_45 (by decide) (fun q33 => ?_) (fun q33 => ?_)
        · replace h := h.1 q33
          refine J_iconst C dX10_faultsMany_52 ?_
          exact J_sub [1, 2, 4] rfl (j53 _ _ _ h g3_8 (rgN 0 (by decide)) g2_8)
        · replace h := h.2 q33
          refine J_iconst C dX10_faultsMany_48 ?_
          refine J_goto C (tgt := 53) dX10_faultsMany_49 (by decide) ?_
          exact J_sub [1, 2, 4] rfl (j53 _ _ _ h g3_8 (rgN 1 (by decide)) g2_8)
      · replace h := h.1 q35
        refine J_iload C dX10_faultsMany_28 0 rfl ?_
        refine J_if_le C g29 (tgt := 37) dX10_faultsMany_30 (by decide) (fun q34 => ?_) (fun q34 => ?_)
        · replace h := h.1 q34
          refine J_iconst C dX10_faultsMany_37 ?_
          refine J_goto C (tgt := 53) dX10_faultsMany_38 (by decide) ?_
          exact J_sub [1, 2, 4] rfl (j53 _ _ _ h g3_8 (rgN 0 (by decide)) g2_8)
        · replace h := h.2 q34
          refine J_iconst C dX10_faultsMany_33 ?_
          refine J_goto C (tgt := 53) dX10_faultsMany_34 (by decide) ?_
          exact J_sub [1, 2, 4] rfl (j53 _ _ _ h g3_8 (rgN 1 (by decide)) g2_8)
  )
  exact J_sub [2, 3, 1, 0] rfl (h (rgN 0 (by decide)) (rgN 0 (by decide)))
set_option maxHeartbeats 4000000 in
set_option maxRecDepth 100000 in
theorem ct_X10_faults {l : Launch} {E : ET} (hs : eS E = false) {s : Sg} {x1 : Int} (g1 : rgI x1) {Q : Int → Sg → Prop} (h : wp_X10_faults x1 s Q) : MetE l E yX10_faults cX10_faults 2 (some .int) rm_X10_faults s [.ref (adE E 279), .int (jI x1)] (qI Q (gN s)) := by
  refine MetJ (by decide +kernel) (Nat.le_of_ble_eq_true rfl) ?_
  intro F hl C hF
  subst hl
  show JJ F E 0 0 s 0 [(0, .ref (adE E 279)), (1, .int (jI x1))] []
  refine J_iload_n C dX10_faults_0 rfl 1 rfl ?_
  refine J_iconst C dX10_faults_1 ?_
  refine J_bipush C dX10_faults_2 (by decide) ?_
  refine J_S C (ct_X10_in hs g1 (rgN 0 (by decide)) (rgN 32 (by decide)) h) ck_X10_in wm_X10_60 wst_X10_in ⟨rfl, rfl⟩ (by decide) (by decide) (As := [.int (jI x1), .int (jI 0), .int (jI 32)]) (rest := []) rfl rfl (Nat.le_of_ble_eq_true rfl) dX10_faults_4 (J_pZ (fun v21 g23 h => ?_))
  refine J_if_eq C (rg_z g23) (tgt := 26) dX10_faults_7 (by decide) (fun q31 => ?_) (fun q31 => ?_)
  · replace h := h.1 q31
    refine J_iconst C dX10_faults_26 ?_
    exact J_iret C (Nat.zero_le _) (Nat.zero_le _) dX10_faults_27 (by rw [hF]; exact ⟨_, rfl, (rgN (-1) (by decide)), h, rfl⟩)
  · replace h := h.2 q31
    refine J_iload_n C dX10_faults_10 rfl 1 rfl ?_
    refine J_iload_n C dX10_faults_11 rfl 1 rfl ?_
    refine J_iconst C dX10_faults_12 ?_
    refine J_isub C dX10_faults_13 ?_
    refine J_iand C dX10_faults_14 ?_
    refine J_if_ne C (rg_and _ _) (tgt := 26) dX10_faults_15 (by decide) (fun q30 => ?_) (fun q30 => ?_)
    · replace h := h.2 q30
      refine J_iconst C dX10_faults_26 ?_
      exact J_iret C (Nat.zero_le _) (Nat.zero_le _) dX10_faults_27 (by rw [hF]; exact ⟨_, rfl, (rgN (-1) (by decide)), h, rfl⟩)
    · replace h := h.1 q30
      refine J_aload_n C dX10_faults_18 rfl 0 rfl ?_
      refine J_iload_n C dX10_faults_19 rfl 1 rfl ?_
      refine J_V C (ct_X10_faultsMany hs g1 h) ck_X10_faultsMany wm_X10_208 win_X10_faultsMany wsel_X10_faultsMany (dmM hs kc279 (by decide)) (clE_k E s kc279) rfl ⟨rfl, rfl⟩ (by decide) (by decide) (As := [.int (jI x1)]) (rest := []) rfl rfl (Nat.le_of_ble_eq_true rfl) dX10_faults_20 (J_kI (fun v25 s26 g27 h n28 => ?_))
      have n29 : gN s26 = gN s := n28
      refine J_goto C (tgt := 27) dX10_faults_23 (by decide) ?_
      exact J_iret C (Nat.zero_le _) (Nat.zero_le _) dX10_faults_27 (by rw [hF]; exact ⟨_, rfl, g27, h, n29⟩)
set_option maxHeartbeats 4000000 in
set_option maxRecDepth 100000 in
theorem ct_X10_doubles {l : Launch} {E : ET} (hs : eS E = false) {s : Sg} {Q : Int → Prop} (h : wp_X10_doubles s Q) : MetE l E yX10_doubles cX10_doubles 3 (some .int) rm_X10_doubles s [.ref (adE E 279)] (qI (fun r t => Q r ∧ t = s) (gN s)) := by
  refine MetJ (by decide +kernel) (Nat.le_of_ble_eq_true rfl) ?_
  intro F hl C hF
  subst hl
  show JJ F E 0 0 s 0 [(0, .ref (adE E 279))] []
  refine J_iconst C dX10_doubles_0 ?_
  refine J_istore_n C dX10_doubles_1 rfl (by decide) (lv' := [(1, .int (jI 0)), (0, .ref (adE E 279))]) rfl ?_
  refine J_iconst C dX10_doubles_2 ?_
  refine J_istore_n C dX10_doubles_3 rfl (by decide) (lv' := [(2, .int (jI 0)), (1, .int (jI 0)), (0, .ref (adE E 279))]) rfl ?_
  replace h := h (fun (x1_4 : Int) (x2_4 : Int) => rgI x1_4 → rgI x2_4 → JJ F E 0 0 s 4 [(0, .ref (adE E 279)), (1, .int (jI x1_4)), (2, .int (jI x2_4))] []) (by
    intro x1_4 x2_4 h g1_4 g2_4
    have j37 : ∀ (x2 : Int) (t0 : Int) (t1 : Int), wj_X10_doubles_37 (fun (x1_4 : Int) (x2_4 : Int) => rgI x1_4 → rgI x2_4 → JJ F E 0 0 s 4 [(0, .ref (adE E 279)), (1, .int (jI x1_4)), (2, .int (jI x2_4))] [])  x2 t0 t1 s Q → rgI x2 → rgI t0 → rgI t1 → JJ F E 0 0 s 37 [(0, .ref (adE E 279)), (2, .int (jI x2))] [.int (jI t0), .int (jI t1)] := by
      intro x2 t0 t1 h g2 gt0 gt1
      refine J_iadd C dX10_doubles_37 ?_
      obtain ⟨x1_38, e31⟩ : ∃ v : Int, v = (t1 + t0) := ⟨_, rfl⟩
      obtain ⟨g1_38, h⟩ := h x1_38 e31
      refine J_top e31 ?_
      refine J_istore_n C dX10_doubles_38 rfl (by decide) (lv' := [(1, .int (jI x1_38)), (0, .ref (adE E 279)), (2, .int (jI x2))]) rfl ?_
      refine J_iinc C dX10_doubles_39 2 rfl (by decide) (lv' := [(2, .int (jI (x2 + 1))), (1, .int (jI x1_38)), (0, .ref (adE E 279))]) rfl ?_
      refine J_goto C (tgt := 4) dX10_doubles_42 (by decide) ?_
      obtain ⟨g32, h⟩ := h
      exact J_sub [2, 1, 0] rfl (h g1_38 g32)
    refine J_iload_n C dX10_doubles_4 rfl 2 rfl ?_
    refine J_aload_n C dX10_doubles_5 rfl 0 rfl ?_
    refine gf_X10_page C hs wf_X10_7 dX10_doubles_6 ?_
    refine J_bipush C dX10_doubles_9 (by decide) ?_
    obtain ⟨b21, b22, h⟩ := h
    refine J_iald C (dmM hs kc280 (by decide)) (n := 12960) (clE_k E s kc280) (by decide) b21 b22 dX10_doubles_11 (fun g23 => ?_)
    refine J_icmp_ge C g2_4 g23 (tgt := 45) dX10_doubles_12 (by decide) (fun q34 => ?_) (fun q34 => ?_)
    · replace h := h.1 q34
      refine J_iload_n C dX10_doubles_45 rfl 1 rfl ?_
      exact J_iret C (Nat.zero_le _) (Nat.zero_le _) dX10_doubles_46 (by rw [hF]; exact ⟨_, rfl, g1_4, ⟨h, rfl⟩, rfl⟩)
    · replace h := h.2 q34
      refine J_iload_n C dX10_doubles_15 rfl 1 rfl ?_
      refine J_aload_n C dX10_doubles_16 rfl 0 rfl ?_
      refine gf_X10_page C hs wf_X10_7 dX10_doubles_17 ?_
      refine J_aload_n C dX10_doubles_20 rfl 0 rfl ?_
      refine J_iload_n C dX10_doubles_21 rfl 2 rfl ?_
      refine J_V C (ct_X10_at hs g2_4 h) ck_X10_at wm_X10_81 win_X10_at wsel_X10_at (dmM hs kc279 (by decide)) (clE_k E s kc279) rfl ⟨rfl, rfl⟩ (by decide) (by decide) (As := [.int (jI x2_4)]) (rest := [.ref (adE E 280), .int (jI x1_4)]) rfl rfl (Nat.le_of_ble_eq_true rfl) dX10_doubles_22 (J_pI (fun v24 g26 h => ?_))
      refine J_iconst C dX10_doubles_25 ?_
      refine J_iadd C dX10_doubles_26 ?_
      obtain ⟨b28, b29, h⟩ := h
      refine J_iald C (dmM hs kc280 (by decide)) (n := 12960) (clE_k E s kc280) (by decide) b28 b29 dX10_doubles_27 (fun g30 => ?_)
      refine J_iconst C dX10_doubles_28 ?_
      refine J_icmp_ne C g30 (rgN 2 (by decide)) (tgt := 36) dX10_doubles_29 (by decide) (fun q33 => ?_) (fun q33 => ?_)
      · replace h := h.2 q33
        refine J_iconst C dX10_doubles_36 ?_
        exact J_sub [0, 2] rfl (j37 _ _ _ h g2_4 (rgN 0 (by decide)) g1_4)
      · replace h := h.1 q33
        refine J_iconst C dX10_doubles_32 ?_
        refine J_goto C (tgt := 37) dX10_doubles_33 (by decide) ?_
        exact J_sub [0, 2] rfl (j37 _ _ _ h g2_4 (rgN 1 (by decide)) g1_4)
  )
  exact J_sub [2, 1, 0] rfl (h (rgN 0 (by decide)) (rgN 0 (by decide)))
