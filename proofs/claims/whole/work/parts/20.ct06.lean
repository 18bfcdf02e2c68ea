/-! contracts (printed by wip/whole/gen) -/
set_option maxHeartbeats 4000000 in
set_option maxRecDepth 100000 in
theorem ct_X10_piece {l : Launch} {E : ET} (hs : eS E = false) {s : Sg} {x1 : Int} (g1 : rgI x1) {x2 : Int} (g2 : rgI x2) {Q : Int → Sg → Prop} (h : wp_X10_piece x1 x2 s Q) : MetE l E yX10_piece cX10_piece 4 (some .int) rm_X10_piece s [.ref (adE E 279), .int (jI x1), .int (jI x2)] (qI Q (gN s)) := by
  refine MetJ (by decide +kernel) (Nat.le_of_ble_eq_true rfl) ?_
  intro F hl C hF
  subst hl
  show JJ F E 0 0 s 0 [(0, .ref (adE E 279)), (1, .int (jI x1)), (2, .int (jI x2))] []
  refine J_iload_n C dX10_piece_0 rfl 1 rfl ?_
  refine J_iconst C dX10_piece_1 ?_
  refine J_sipush C dX10_piece_2 (by decide) ?_
  refine J_S C (ct_X10_in hs g1 (rgN 0 (by decide)) (rgN 9999 (by decide)) h) ck_X10_in wm_X10_60 wst_X10_in ⟨rfl, rfl⟩ (by decide) (by decide) (As := [.int (jI x1), .int (jI 0), .int (jI 9999)]) (rest := []) rfl rfl (Nat.le_of_ble_eq_true rfl) dX10_piece_5 (J_pZ (fun v21 g23 h => ?_))
  refine J_if_eq C (rg_z g23) (tgt := 31) dX10_piece_8 (by decide) (fun q70 => ?_) (fun q70 => ?_)
  · replace h := h.1 q70
    refine J_iconst C dX10_piece_31 ?_
    exact J_iret C (Nat.zero_le _) (Nat.zero_le _) dX10_piece_32 (by rw [hF]; exact ⟨_, rfl, (rgN (-1) (by decide)), h, rfl⟩)
  · replace h := h.2 q70
    refine J_iload_n C dX10_piece_11 rfl 2 rfl ?_
    refine J_iconst C dX10_piece_12 ?_
    refine J_sipush C dX10_piece_13 (by decide) ?_
    refine J_S C (ct_X10_in hs g2 (rgN 1 (by decide)) (rgN 5000 (by decide)) h) ck_X10_in wm_X10_60 wst_X10_in ⟨rfl, rfl⟩ (by decide) (by decide) (As := [.int (jI x2), .int (jI 1), .int (jI 5000)]) (rest := []) rfl rfl (Nat.le_of_ble_eq_true rfl) dX10_piece_16 (J_pZ (fun v25 g27 h => ?_))
    refine J_if_eq C (rg_z g27) (tgt := 31) dX10_piece_19 (by decide) (fun q69 => ?_) (fun q69 => ?_)
    · replace h := h.1 q69
      refine J_iconst C dX10_piece_31 ?_
      exact J_iret C (Nat.zero_le _) (Nat.zero_le _) dX10_piece_32 (by rw [hF]; exact ⟨_, rfl, (rgN (-1) (by decide)), h, rfl⟩)
    · replace h := h.2 q69
      refine J_iload_n C dX10_piece_22 rfl 1 rfl ?_
      refine J_iload_n C dX10_piece_23 rfl 2 rfl ?_
      refine J_iadd C dX10_piece_24 ?_
      refine J_sipush C dX10_piece_25 (by decide) ?_
      obtain ⟨g29, h⟩ := h
      refine J_icmp_le C g29 (rgN 10000 (by decide)) (tgt := 33) dX10_piece_28 (by decide) (fun q68 => ?_) (fun q68 => ?_)
      · replace h := h.1 q68
        refine J_aload_n C dX10_piece_33 rfl 0 rfl ?_
        refine gf_X10_page C hs wf_X10_7 dX10_piece_34 ?_
        refine J_iconst C dX10_piece_37 ?_
        obtain ⟨b30, b31, h⟩ := h
        refine J_iald C (dmM hs kc280 (by decide)) (n := 12960) (clE_k E s kc280) (by decide) b30 b31 dX10_piece_38 (fun g32 => ?_)
        refine J_bipush C dX10_piece_39 (by decide) ?_
        refine J_icmp_eq C g32 (rgN 10 (by decide)) (tgt := 56) dX10_piece_41 (by decide) (fun q67 => ?_) (fun q67 => ?_)
        · replace h := h.1 q67
          refine J_bipush C dX10_piece_56 (by decide) ?_
          exact J_iret C (Nat.zero_le _) (Nat.zero_le _) dX10_piece_58 (by rw [hF]; exact ⟨_, rfl, (rgN (-3) (by decide)), h, rfl⟩)
        · replace h := h.2 q67
          refine J_aload_n C dX10_piece_44 rfl 0 rfl ?_
          refine J_V C (ct_X10_newLong hs h) ck_X10_newLong wm_X10_64 win_X10_newLong wsel_X10_newLong (dmM hs kc279 (by decide)) (clE_k E s kc279) rfl ⟨rfl, rfl⟩ (by decide) (by decide) (As := []) (rest := []) rfl rfl (Nat.le_of_ble_eq_true rfl) dX10_piece_45 (J_pI (fun v33 g35 h => ?_))
          refine J_iload_n C dX10_piece_48 rfl 2 rfl ?_
          refine J_iadd C dX10_piece_49 ?_
          refine J_sipush C dX10_piece_50 (by decide) ?_
          obtain ⟨g37, h⟩ := h
          refine J_icmp_le C g37 (rgN 9999 (by decide)) (tgt := 59) dX10_piece_53 (by decide) (fun q66 => ?_) (fun q66 => ?_)
          · replace h := h.1 q66
            refine J_aload_n C dX10_piece_59 rfl 0 rfl ?_
            refine J_V C (ct_X10_records hs h) ck_X10_records wm_X10_68 win_X10_records wsel_X10_records (dmM hs kc279 (by decide)) (clE_k E s kc279) rfl ⟨rfl, rfl⟩ (by decide) (by decide) (As := []) (rest := []) rfl rfl (Nat.le_of_ble_eq_true rfl) dX10_piece_60 (J_kV (fun s39 h n41 => ?_))
            have n42 : gN s39 = gN s := n41
            refine J_aload_n C dX10_piece_63 rfl 0 rfl ?_
            refine gf_X10_page C hs wf_X10_7 dX10_piece_64 ?_
            refine J_iconst C dX10_piece_67 ?_
            obtain ⟨b43, b44, h⟩ := h
            refine J_iald C (dmM hs kc280 (by decide)) (n := 12960) (clE_k E s39 kc280) (by decide) b43 b44 dX10_piece_68 (fun g45 => ?_)
            obtain ⟨x3_69, e46⟩ : ∃ v : Int, v = (gI s39 280 0) := ⟨_, rfl⟩
            replace h := h x3_69 e46
            have g3_69 : rgI x3_69 := by rw [e46]; exact g45
            refine J_top e46 ?_
            refine J_istore_n C dX10_piece_69 rfl (by decide) (lv' := [(3, .int (jI x3_69)), (0, .ref (adE E 279)), (1, .int (jI x1)), (2, .int (jI x2))]) rfl ?_
            refine J_aload_n C dX10_piece_70 rfl 1 rfl ?_
            refine gf_X10_page C hs wf_X10_7 dX10_piece_71 ?_
            refine J_iconst C dX10_piece_74 ?_
            refine J_iconst C dX10_piece_75 ?_
            refine J_iload_n C dX10_piece_76 rfl 0 rfl ?_
            refine J_imul C dX10_piece_77 ?_
            refine J_iadd C dX10_piece_78 ?_
            refine J_iload_n C dX10_piece_79 rfl 2 rfl ?_
            obtain ⟨b47, b48, h⟩ := h
            refine J_iast C (wrM hs kc280 (by decide)) (n := 12960) (fun z => clE_k E z kc280) (by decide) b47 b48 g1 dX10_piece_80 ?_
            obtain ⟨s49, f50⟩ : ∃ z : Sg, z = sI s39 280 (1 + (2 * x3_69)) x1 := ⟨_, rfl⟩
            replace h := h s49 f50
            refine J_sig f50 ?_
            have n51 : gN s49 = gN s := by rw [f50]; exact n42
            refine J_aload_n C dX10_piece_81 rfl 1 rfl ?_
            refine gf_X10_page C hs wf_X10_7 dX10_piece_82 ?_
            refine J_iconst C dX10_piece_85 ?_
            refine J_iconst C dX10_piece_86 ?_
            refine J_iload_n C dX10_piece_87 rfl 0 rfl ?_
            refine J_imul C dX10_piece_88 ?_
            refine J_iadd C dX10_piece_89 ?_
            refine J_iconst C dX10_piece_90 ?_
            refine J_iadd C dX10_piece_91 ?_
            refine J_iload_n C dX10_piece_92 rfl 3 rfl ?_
            obtain ⟨b52, b53, h⟩ := h
            refine J_iast C (wrM hs kc280 (by decide)) (n := 12960) (fun z => clE_k E z kc280) (by decide) b52 b53 g2 dX10_piece_93 ?_
            obtain ⟨s54, f55⟩ : ∃ z : Sg, z = sI s49 280 ((1 + (2 * x3_69)) + 1) x2 := ⟨_, rfl⟩
            replace h := h s54 f55
            refine J_sig f55 ?_
            have n56 : gN s54 = gN s := by rw [f55]; exact n51
            refine J_aload_n C dX10_piece_94 rfl 1 rfl ?_
            refine gf_X10_page C hs wf_X10_7 dX10_piece_95 ?_
            refine J_iconst C dX10_piece_98 ?_
            refine J_dup2 C dX10_piece_99 rfl rfl ?_
            obtain ⟨b57, b58, h⟩ := h
            refine J_iald C (dmM hs kc280 (by decide)) (n := 12960) (clE_k E s54 kc280) (by decide) b57 b58 dX10_piece_100 (fun g59 => ?_)
            refine J_iconst C dX10_piece_101 ?_
            refine J_iadd C dX10_piece_102 ?_
            obtain ⟨b60, b61, g62, h⟩ := h
            refine J_iast C (wrM hs kc280 (by decide)) (n := 12960) (fun z => clE_k E z kc280) (by decide) b60 b61 g62 dX10_piece_103 ?_
            obtain ⟨s63, f64⟩ : ∃ z : Sg, z = sI s54 280 0 ((gI s54 280 0) + 1) := ⟨_, rfl⟩
            replace h := h s63 f64
            refine J_sig f64 ?_
            have n65 : gN s63 = gN s := by rw [f64]; exact n56
            refine J_iload_n C dX10_piece_104 rfl 0 rfl ?_
            exact J_iret C (Nat.zero_le _) (Nat.zero_le _) dX10_piece_105 (by rw [hF]; exact ⟨_, rfl, g3_69, h, n65⟩)
          · replace h := h.2 q66
            refine J_bipush C dX10_piece_56 (by decide) ?_
            exact J_iret C (Nat.zero_le _) (Nat.zero_le _) dX10_piece_58 (by rw [hF]; exact ⟨_, rfl, (rgN (-3) (by decide)), h, rfl⟩)
      · replace h := h.2 q68
        refine J_iconst C dX10_piece_31 ?_
        exact J_iret C (Nat.zero_le _) (Nat.zero_le _) dX10_piece_32 (by rw [hF]; exact ⟨_, rfl, (rgN (-1) (by decide)), h, rfl⟩)
set_option maxHeartbeats 4000000 in
set_option maxRecDepth 100000 in
theorem ct_X10_dropPiece {l : Launch} {E : ET} (hs : eS E = false) {s : Sg} {x1 : Int} (g1 : rgI x1) {Q : Int → Sg → Prop} (h : wp_X10_dropPiece x1 s Q) : MetE l E yX10_dropPiece cX10_dropPiece 3 (some .int) rm_X10_dropPiece s [.ref (adE E 279), .int (jI x1)] (qI Q (gN s)) := by
  refine MetJ (by decide +kernel) (Nat.le_of_ble_eq_true rfl) ?_
  intro F hl C hF
  subst hl
  show JJ F E 0 0 s 0 [(0, .ref (adE E 279)), (1, .int (jI x1))] []
  refine J_aload_n C dX10_dropPiece_0 rfl 0 rfl ?_
  refine J_iload_n C dX10_dropPiece_1 rfl 1 rfl ?_
  refine J_V C (ct_X10_isPiece hs g1 h) ck_X10_isPiece wm_X10_71 win_X10_isPiece wsel_X10_isPiece (dmM hs kc279 (by decide)) (clE_k E s kc279) rfl ⟨rfl, rfl⟩ (by decide) (by decide) (As := [.int (jI x1)]) (rest := []) rfl rfl (Nat.le_of_ble_eq_true rfl) dX10_dropPiece_2 (J_pZ (fun v21 g23 h => ?_))
  refine J_if_ne C (rg_z g23) (tgt := 10) dX10_dropPiece_5 (by decide) (fun q58 => ?_) (fun q58 => ?_)
  · replace h := h.2 q58
    refine J_aload_n C dX10_dropPiece_10 rfl 0 rfl ?_
    refine J_V C (ct_X10_records hs h) ck_X10_records wm_X10_68 win_X10_records wsel_X10_records (dmM hs kc279 (by decide)) (clE_k E s kc279) rfl ⟨rfl, rfl⟩ (by decide) (by decide) (As := []) (rest := []) rfl rfl (Nat.le_of_ble_eq_true rfl) dX10_dropPiece_11 (J_kV (fun s26 h n28 => ?_))
    have n29 : gN s26 = gN s := n28
    refine J_aload_n C dX10_dropPiece_14 rfl 0 rfl ?_
    refine gf_X10_page C hs wf_X10_7 dX10_dropPiece_15 ?_
    refine J_iconst C dX10_dropPiece_18 ?_
    refine J_dup2 C dX10_dropPiece_19 rfl rfl ?_
    obtain ⟨b30, b31, h⟩ := h
    refine J_iald C (dmM hs kc280 (by decide)) (n := 12960) (clE_k E s26 kc280) (by decide) b30 b31 dX10_dropPiece_20 (fun g32 => ?_)
    refine J_iconst C dX10_dropPiece_21 ?_
    refine J_isub C dX10_dropPiece_22 ?_
    obtain ⟨b33, b34, g35, h⟩ := h
    refine J_iast C (wrM hs kc280 (by decide)) (n := 12960) (fun z => clE_k E z kc280) (by decide) b33 b34 g35 dX10_dropPiece_23 ?_
    obtain ⟨s36, f37⟩ : ∃ z : Sg, z = sI s26 280 0 ((gI s26 280 0) - 1) := ⟨_, rfl⟩
    replace h := h s36 f37
    refine J_sig f37 ?_
    have n38 : gN s36 = gN s := by rw [f37]; exact n29
    refine J_iconst C dX10_dropPiece_24 ?_
    refine J_iconst C dX10_dropPiece_25 ?_
    refine J_iload_n C dX10_dropPiece_26 rfl 1 rfl ?_
    refine J_imul C dX10_dropPiece_27 ?_
    refine J_iadd C dX10_dropPiece_28 ?_
    obtain ⟨x2_29, e39⟩ : ∃ v : Int, v = (1 + (2 * x1)) := ⟨_, rfl⟩
    obtain ⟨g2_29, h⟩ := h x2_29 e39
    refine J_top e39 ?_
    refine J_istore_n C dX10_dropPiece_29 rfl (by decide) (lv' := [(2, .int (jI x2_29)), (0, .ref (adE E 279)), (1, .int (jI x1))]) rfl ?_
    replace h := h (fun (x2_30 : Int) (sL30 : Sg) => rgI x2_30 → gN sL30 = gN s → JJ F E 0 0 sL30 30 [(0, .ref (adE E 279)), (2, .int (jI x2_30))] []) (by
      intro x2_30 sL30 h g2_30 nL30
      refine J_iload_n C dX10_dropPiece_30 rfl 1 rfl ?_
      refine J_iconst C dX10_dropPiece_31 ?_
      refine J_iconst C dX10_dropPiece_32 ?_
      refine J_aload_n C dX10_dropPiece_33 rfl 0 rfl ?_
      refine gf_X10_page C hs wf_X10_7 dX10_dropPiece_34 ?_
      refine J_iconst C dX10_dropPiece_37 ?_
      obtain ⟨b40, b41, h⟩ := h
      refine J_iald C (dmM hs kc280 (by decide)) (n := 12960) (clE_k E sL30 kc280) (by decide) b40 b41 dX10_dropPiece_38 (fun g42 => ?_)
      refine J_imul C dX10_dropPiece_39 ?_
      refine J_iadd C dX10_dropPiece_40 ?_
      obtain ⟨g43, h⟩ := h
      refine J_icmp_ge C g2_30 g43 (tgt := 64) dX10_dropPiece_41 (by decide) (fun q57 => ?_) (fun q57 => ?_)
      · replace h := h.1 q57
        refine J_aload_n C dX10_dropPiece_64 rfl 0 rfl ?_
        refine J_V C (ct_X10_newLong hs h) ck_X10_newLong wm_X10_64 win_X10_newLong wsel_X10_newLong (dmM hs kc279 (by decide)) (clE_k E sL30 kc279) rfl ⟨rfl, rfl⟩ (by decide) (by decide) (As := []) (rest := []) rfl rfl (Nat.le_of_ble_eq_true rfl) dX10_dropPiece_65 (J_pI (fun v44 g46 h => ?_))
        exact J_iret C (Nat.zero_le _) (Nat.zero_le _) dX10_dropPiece_68 (by rw [hF]; exact ⟨_, rfl, g46, h, nL30⟩)
      · replace h := h.2 q57
        refine J_aload_n C dX10_dropPiece_44 rfl 0 rfl ?_
        refine gf_X10_page C hs wf_X10_7 dX10_dropPiece_45 ?_
        refine J_iload_n C dX10_dropPiece_48 rfl 1 rfl ?_
        refine J_aload_n C dX10_dropPiece_49 rfl 0 rfl ?_
        refine gf_X10_page C hs wf_X10_7 dX10_dropPiece_50 ?_
        refine J_iload_n C dX10_dropPiece_53 rfl 1 rfl ?_
        refine J_iconst C dX10_dropPiece_54 ?_
        refine J_iadd C dX10_dropPiece_55 ?_
        obtain ⟨b48, b49, h⟩ := h
        refine J_iald C (dmM hs kc280 (by decide)) (n := 12960) (clE_k E sL30 kc280) (by decide) b48 b49 dX10_dropPiece_56 (fun g50 => ?_)
        obtain ⟨b51, b52, h⟩ := h
        refine J_iast C (wrM hs kc280 (by decide)) (n := 12960) (fun z => clE_k E z kc280) (by decide) b51 b52 g50 dX10_dropPiece_57 ?_
        obtain ⟨s53, f54⟩ : ∃ z : Sg, z = sI sL30 280 x2_30 (gI sL30 280 (x2_30 + 2)) := ⟨_, rfl⟩
        replace h := h s53 f54
        refine J_sig f54 ?_
        have n55 : gN s53 = gN s := by rw [f54]; exact nL30
        refine J_iinc C dX10_dropPiece_58 1 rfl (by decide) (lv' := [(2, .int (jI (x2_30 + 1))), (0, .ref (adE E 279))]) rfl ?_
        refine J_goto C (tgt := 30) dX10_dropPiece_61 (by decide) ?_
        obtain ⟨g56, h⟩ := h
        exact J_sub [1, 0] rfl (h g56 n55)
    )
    exact J_sub [1, 0] rfl (h g2_29 n38)
  · replace h := h.1 q58
    refine J_iconst C dX10_dropPiece_8 ?_
    exact J_iret C (Nat.zero_le _) (Nat.zero_le _) dX10_dropPiece_9 (by rw [hF]; exact ⟨_, rfl, (rgN (-1) (by decide)), h, rfl⟩)
set_option maxHeartbeats 4000000 in
set_option maxRecDepth 100000 in
theorem ct_X10_pieceAt {l : Launch} {E : ET} (hs : eS E = false) {s : Sg} {x1 : Int} (g1 : rgI x1) {x2 : Int} (g2 : rgI x2) {Q : Int → Prop} (h : wp_X10_pieceAt x1 x2 s Q) : MetE l E yX10_pieceAt cX10_pieceAt 3 (some .int) rm_X10_pieceAt s [.ref (adE E 279), .int (jI x1), .int (jI x2)] (qI (fun r t => Q r ∧ t = s) (gN s)) := by
  refine MetJ (by decide +kernel) (Nat.le_of_ble_eq_true rfl) ?_
  intro F hl C hF
  subst hl
  show JJ F E 0 0 s 0 [(0, .ref (adE E 279)), (1, .int (jI x1)), (2, .int (jI x2))] []
  refine J_aload_n C dX10_pieceAt_0 rfl 0 rfl ?_
  refine J_iload_n C dX10_pieceAt_1 rfl 1 rfl ?_
  refine J_V C (ct_X10_isPiece hs g1 h) ck_X10_isPiece wm_X10_71 win_X10_isPiece wsel_X10_isPiece (dmM hs kc279 (by decide)) (clE_k E s kc279) rfl ⟨rfl, rfl⟩ (by decide) (by decide) (As := [.int (jI x1)]) (rest := []) rfl rfl (Nat.le_of_ble_eq_true rfl) dX10_pieceAt_2 (J_pZ (fun v21 g23 h => ?_))
  refine J_if_eq C (rg_z g23) (tgt := 17) dX10_pieceAt_5 (by decide) (fun q44 => ?_) (fun q44 => ?_)
  · replace h := h.1 q44
    refine J_iconst C dX10_pieceAt_17 ?_
    exact J_iret C (Nat.zero_le _) (Nat.zero_le _) dX10_pieceAt_18 (by rw [hF]; exact ⟨_, rfl, (rgN (-1) (by decide)), ⟨h, rfl⟩, rfl⟩)
  · replace h := h.2 q44
    refine J_iload_n C dX10_pieceAt_8 rfl 2 rfl ?_
    refine J_iconst C dX10_pieceAt_9 ?_
    refine J_iconst C dX10_pieceAt_10 ?_
    refine J_S C (ct_X10_in hs g2 (rgN 0 (by decide)) (rgN 2 (by decide)) h) ck_X10_in wm_X10_60 wst_X10_in ⟨rfl, rfl⟩ (by decide) (by decide) (As := [.int (jI x2), .int (jI 0), .int (jI 2)]) (rest := []) rfl rfl (Nat.le_of_ble_eq_true rfl) dX10_pieceAt_11 (J_pZ (fun v25 g27 h => ?_))
    refine J_if_ne C (rg_z g27) (tgt := 19) dX10_pieceAt_14 (by decide) (fun q43 => ?_) (fun q43 => ?_)
    · replace h := h.2 q43
      refine J_iload_n C dX10_pieceAt_19 rfl 2 rfl ?_
      refine J_if_ne C g2 (tgt := 31) dX10_pieceAt_20 (by decide) (fun q42 => ?_) (fun q42 => ?_)
      · replace h := h.2 q42
        refine J_iload_n C dX10_pieceAt_31 rfl 2 rfl ?_
        refine J_iconst C dX10_pieceAt_32 ?_
        refine J_icmp_ne C g2 (rgN 1 (by decide)) (tgt := 44) dX10_pieceAt_33 (by decide) (fun q37 => ?_) (fun q37 => ?_)
        · replace h := h.2 q37
          refine J_aload_n C dX10_pieceAt_44 rfl 0 rfl ?_
          refine J_iload_n C dX10_pieceAt_45 rfl 1 rfl ?_
          refine J_V C (ct_X10_pieceNew hs g1 h) ck_X10_pieceNew wm_X10_57 win_X10_pieceNew wsel_X10_pieceNew (dmM hs kc279 (by decide)) (clE_k E s kc279) rfl ⟨rfl, rfl⟩ (by decide) (by decide) (As := [.int (jI x1)]) (rest := []) rfl rfl (Nat.le_of_ble_eq_true rfl) dX10_pieceAt_46 (J_pI (fun v29 g31 h => ?_))
          exact J_iret C (Nat.zero_le _) (Nat.zero_le _) dX10_pieceAt_49 (by rw [hF]; exact ⟨_, rfl, g31, ⟨h, rfl⟩, rfl⟩)
        · replace h := h.1 q37
          refine J_aload_n C dX10_pieceAt_36 rfl 0 rfl ?_
          refine J_iload_n C dX10_pieceAt_37 rfl 1 rfl ?_
          refine J_V C (ct_X10_pieceLong hs g1 h) ck_X10_pieceLong wm_X10_53 win_X10_pieceLong wsel_X10_pieceLong (dmM hs kc279 (by decide)) (clE_k E s kc279) rfl ⟨rfl, rfl⟩ (by decide) (by decide) (As := [.int (jI x1)]) (rest := []) rfl rfl (Nat.le_of_ble_eq_true rfl) dX10_pieceAt_38 (J_pI (fun v33 g35 h => ?_))
          refine J_goto C (tgt := 49) dX10_pieceAt_41 (by decide) ?_
          exact J_iret C (Nat.zero_le _) (Nat.zero_le _) dX10_pieceAt_49 (by rw [hF]; exact ⟨_, rfl, g35, ⟨h, rfl⟩, rfl⟩)
      · replace h := h.1 q42
        refine J_aload_n C dX10_pieceAt_23 rfl 0 rfl ?_
        refine J_iload_n C dX10_pieceAt_24 rfl 1 rfl ?_
        refine J_V C (ct_X10_pieceFirst hs g1 h) ck_X10_pieceFirst wm_X10_75 win_X10_pieceFirst wsel_X10_pieceFirst (dmM hs kc279 (by decide)) (clE_k E s kc279) rfl ⟨rfl, rfl⟩ (by decide) (by decide) (As := [.int (jI x1)]) (rest := []) rfl rfl (Nat.le_of_ble_eq_true rfl) dX10_pieceAt_25 (J_pI (fun v38 g40 h => ?_))
        refine J_goto C (tgt := 49) dX10_pieceAt_28 (by decide) ?_
        exact J_iret C (Nat.zero_le _) (Nat.zero_le _) dX10_pieceAt_49 (by rw [hF]; exact ⟨_, rfl, g40, ⟨h, rfl⟩, rfl⟩)
    · replace h := h.1 q43
      refine J_iconst C dX10_pieceAt_17 ?_
      exact J_iret C (Nat.zero_le _) (Nat.zero_le _) dX10_pieceAt_18 (by rw [hF]; exact ⟨_, rfl, (rgN (-1) (by decide)), ⟨h, rfl⟩, rfl⟩)
set_option maxHeartbeats 4000000 in
set_option maxRecDepth 100000 in
theorem ct_X10_isShot {l : Launch} {E : ET} (hs : eS E = false) {s : Sg} {x1 : Int} (g1 : rgI x1) {Q : Int → Prop} (h : wp_X10_isShot x1 s Q) : MetE l E yX10_isShot cX10_isShot 4 (some .boolean) rm_X10_isShot s [.ref (adE E 279), .int (jI x1)] (qZ (fun r t => Q r ∧ t = s) (gN s)) := by
  refine MetJ (by decide +kernel) (Nat.le_of_ble_eq_true rfl) ?_
  intro F hl C hF
  subst hl
  show JJ F E 0 0 s 0 [(0, .ref (adE E 279)), (1, .int (jI x1))] []
  refine J_iconst C dX10_isShot_0 ?_
  refine J_istore_n C dX10_isShot_1 rfl (by decide) (lv' := [(2, .int (jI 0)), (0, .ref (adE E 279)), (1, .int (jI x1))]) rfl ?_
  refine J_iconst C dX10_isShot_2 ?_
  refine J_istore_n C dX10_isShot_3 rfl (by decide) (lv' := [(3, .int (jI 0)), (2, .int (jI 0)), (0, .ref (adE E 279)), (1, .int (jI x1))]) rfl ?_
  replace h := h (fun (x2_4 : Int) (x3_4 : Int) => rgI x2_4 → rgI x3_4 → JJ F E 0 0 s 4 [(0, .ref (adE E 279)), (1, .int (jI x1)), (2, .int (jI x2_4)), (3, .int (jI x3_4))] []) (by
    intro x2_4 x3_4 h g2_4 g3_4
    have j37 : ∀ (x3 : Int) (t0 : Int), wj_X10_isShot_37 (fun (x2_4 : Int) (x3_4 : Int) => rgI x2_4 → rgI x3_4 → JJ F E 0 0 s 4 [(0, .ref (adE E 279)), (1, .int (jI x1)), (2, .int (jI x2_4)), (3, .int (jI x3_4))] []) x1 x3 t0 s Q → rgI x3 → rgI t0 → JJ F E 0 0 s 37 [(0, .ref (adE E 279)), (1, .int (jI x1)), (3, .int (jI x3))] [.int (jI t0)] := by
      intro x3 t0 h g3 gt0
      refine J_istore_n C dX10_isShot_37 rfl (by decide) (lv' := [(2, .int (jI t0)), (0, .ref (adE E 279)), (1, .int (jI x1)), (3, .int (jI x3))]) rfl ?_
      refine J_iinc C dX10_isShot_38 3 rfl (by decide) (lv' := [(3, .int (jI (x3 + 1))), (2, .int (jI t0)), (0, .ref (adE E 279)), (1, .int (jI x1))]) rfl ?_
      refine J_goto C (tgt := 4) dX10_isShot_41 (by decide) ?_
      obtain ⟨g25, h⟩ := h
      exact J_sub [2, 3, 1, 0] rfl (h gt0 g25)
    have j32 : ∀ (x3 : Int), wj_X10_isShot_32 (fun (x2_4 : Int) (x3_4 : Int) => rgI x2_4 → rgI x3_4 → JJ F E 0 0 s 4 [(0, .ref (adE E 279)), (1, .int (jI x1)), (2, .int (jI x2_4)), (3, .int (jI x3_4))] []) x1 x3 s Q → rgI x3 → JJ F E 0 0 s 32 [(0, .ref (adE E 279)), (1, .int (jI x1)), (3, .int (jI x3))] [] := by
      intro x3 h g3
      refine J_iconst C dX10_isShot_32 ?_
      refine J_goto C (tgt := 37) dX10_isShot_33 (by decide) ?_
      exact J_sub [0, 1, 2] rfl (j37 _ _ h g3 (rgN 1 (by decide)))
    refine J_iload_n C dX10_isShot_4 rfl 3 rfl ?_
    refine J_aload_n C dX10_isShot_5 rfl 0 rfl ?_
    refine gf_X10_page C hs wf_X10_7 dX10_isShot_6 ?_
    refine J_bipush C dX10_isShot_9 (by decide) ?_
    obtain ⟨b21, b22, h⟩ := h
    refine J_iald C (dmM hs kc280 (by decide)) (n := 12960) (clE_k E s kc280) (by decide) b21 b22 dX10_isShot_11 (fun g23 => ?_)
    refine J_icmp_ge C g3_4 g23 (tgt := 44) dX10_isShot_12 (by decide) (fun q31 => ?_) (fun q31 => ?_)
    · replace h := h.1 q31
      refine J_iload_n C dX10_isShot_44 rfl 2 rfl ?_
      obtain ⟨g24, h⟩ := h
      exact J_zret C (Nat.zero_le _) (Nat.zero_le _) (nar_z g24) dX10_isShot_45 (by rw [hF]; exact ⟨_, rfl, g24, ⟨h, rfl⟩, rfl⟩)
    · replace h := h.2 q31
      refine J_iload_n C dX10_isShot_15 rfl 2 rfl ?_
      refine J_if_ne C g2_4 (tgt := 32) dX10_isShot_16 (by decide) (fun q30 => ?_) (fun q30 => ?_)
      · replace h := h.2 q30
        exact J_sub [0, 1, 3] rfl (j32 _ h g3_4)
      · replace h := h.1 q30
        refine J_aload_n C dX10_isShot_19 rfl 0 rfl ?_
        refine gf_X10_page C hs wf_X10_7 dX10_isShot_20 ?_
        refine J_bipush C dX10_isShot_23 (by decide) ?_
        refine J_iload_n C dX10_isShot_25 rfl 3 rfl ?_
        refine J_iadd C dX10_isShot_26 ?_
        obtain ⟨b26, b27, h⟩ := h
        refine J_iald C (dmM hs kc280 (by decide)) (n := 12960) (clE_k E s kc280) (by decide) b26 b27 dX10_isShot_27 (fun g28 => ?_)
        refine J_iload_n C dX10_isShot_28 rfl 1 rfl ?_
        refine J_icmp_ne C g28 g1 (tgt := 36) dX10_isShot_29 (by decide) (fun q29 => ?_) (fun q29 => ?_)
        · replace h := h.2 q29
          refine J_iconst C dX10_isShot_36 ?_
          exact J_sub [0, 1, 3] rfl (j37 _ _ h g3_4 (rgN 0 (by decide)))
        · replace h := h.1 q29
          exact J_sub [0, 1, 3] rfl (j32 _ h g3_4)
  )
  exact J_sub [2, 3, 1, 0] rfl (h (rgN 0 (by decide)) (rgN 0 (by decide)))
set_option maxHeartbeats 4000000 in
set_option maxRecDepth 100000 in
theorem ct_X10_shot {l : Launch} {E : ET} (hs : eS E = false) {s : Sg} {x1 : Int} (g1 : rgI x1) {x2 : Int} (g2 : rgI x2) {Q : Int → Sg → Prop} (h : wp_X10_shot x1 x2 s Q) : MetE l E yX10_shot cX10_shot 6 (some .int) rm_X10_shot s [.ref (adE E 279), .int (jI x1), .int (jI x2)] (qI Q (gN s)) := by
  refine MetJ (by decide +kernel) (Nat.le_of_ble_eq_true rfl) ?_
  intro F hl C hF
  subst hl
  show JJ F E 0 0 s 0 [(0, .ref (adE E 279)), (1, .int (jI x1)), (2, .int (jI x2))] []
  have j158 : ∀ (x2 : Int) (x3 : Int) (x4 : Int) (sj : Sg), wj_X10_shot_158   x2 x3 x4 sj Q → rgI x2 → rgI x3 → rgI x4 → gN sj = gN s → JJ F E 0 0 sj 158 [(0, .ref (adE E 279)), (2, .int (jI x2)), (3, .int (jI x3)), (4, .int (jI x4))] [] := by
    intro x2 x3 x4 sj h g2 g3 g4 nj
    refine J_iload_n C dX10_shot_158 rfl 1 rfl ?_
    refine J_if_ne C g2 (tgt := 221) dX10_shot_159 (by decide) (fun q69 => ?_) (fun q69 => ?_)
    · replace h := h.2 q69
      refine J_aload_n C dX10_shot_221 rfl 0 rfl ?_
      refine gf_X10_page C hs wf_X10_7 dX10_shot_222 ?_
      refine J_bipush C dX10_shot_225 (by decide) ?_
      obtain ⟨b37, b38, h⟩ := h
      refine J_iald C (dmM hs kc280 (by decide)) (n := 12960) (clE_k E sj kc280) (by decide) b37 b38 dX10_shot_227 (fun g39 => ?_)
      exact J_iret C (Nat.zero_le _) (Nat.zero_le _) dX10_shot_228 (by rw [hF]; exact ⟨_, rfl, g39, h, nj⟩)
    · replace h := h.1 q69
      refine J_iload_n C dX10_shot_162 rfl 2 rfl ?_
      refine J_if_eq C g3 (tgt := 221) dX10_shot_163 (by decide) (fun q68 => ?_) (fun q68 => ?_)
      · replace h := h.1 q68
        refine J_aload_n C dX10_shot_221 rfl 0 rfl ?_
        refine gf_X10_page C hs wf_X10_7 dX10_shot_222 ?_
        refine J_bipush C dX10_shot_225 (by decide) ?_
        obtain ⟨b40, b41, h⟩ := h
        refine J_iald C (dmM hs kc280 (by decide)) (n := 12960) (clE_k E sj kc280) (by decide) b40 b41 dX10_shot_227 (fun g42 => ?_)
        exact J_iret C (Nat.zero_le _) (Nat.zero_le _) dX10_shot_228 (by rw [hF]; exact ⟨_, rfl, g42, h, nj⟩)
      · replace h := h.2 q68
        refine J_aload_n C dX10_shot_166 rfl 0 rfl ?_
        refine gf_X10_page C hs wf_X10_7 dX10_shot_167 ?_
        refine J_bipush C dX10_shot_170 (by decide) ?_
        refine J_dup2 C dX10_shot_172 rfl rfl ?_
        obtain ⟨b43, b44, h⟩ := h
        refine J_iald C (dmM hs kc280 (by decide)) (n := 12960) (clE_k E sj kc280) (by decide) b43 b44 dX10_shot_173 (fun g45 => ?_)
        refine J_iconst C dX10_shot_174 ?_
        refine J_isub C dX10_shot_175 ?_
        obtain ⟨b46, b47, g48, h⟩ := h
        refine J_iast C (wrM hs kc280 (by decide)) (n := 12960) (fun z => clE_k E z kc280) (by decide) b46 b47 g48 dX10_shot_176 ?_
        obtain ⟨s49, f50⟩ : ∃ z : Sg, z = sI sj 280 21 ((gI sj 280 21) - 1) := ⟨_, rfl⟩
        replace h := h s49 f50
        refine J_sig f50 ?_
        have n51 : gN s49 = gN s := by rw [f50]; exact nj
        refine J_iload C dX10_shot_177 3 rfl ?_
        refine J_istore C dX10_shot_179 (by decide) (lv' := [(5, .int (jI x4)), (0, .ref (adE E 279)), (2, .int (jI x2)), (3, .int (jI x3)), (4, .int (jI x4))]) rfl ?_
        replace h := h (fun (x5_181 : Int) (sL181 : Sg) => rgI x5_181 → gN sL181 = gN s → JJ F E 0 0 sL181 181 [(0, .ref (adE E 279)), (5, .int (jI x5_181))] []) (by
          intro x5_181 sL181 h g5_181 nL181
          refine J_iload C dX10_shot_181 1 rfl ?_
          refine J_aload_n C dX10_shot_183 rfl 0 rfl ?_
          refine gf_X10_page C hs wf_X10_7 dX10_shot_184 ?_
          refine J_bipush C dX10_shot_187 (by decide) ?_
          obtain ⟨b52, b53, h⟩ := h
          refine J_iald C (dmM hs kc280 (by decide)) (n := 12960) (clE_k E sL181 kc280) (by decide) b52 b53 dX10_shot_189 (fun g54 => ?_)
          refine J_icmp_ge C g5_181 g54 (tgt := 221) dX10_shot_190 (by decide) (fun q67 => ?_) (fun q67 => ?_)
          · replace h := h.1 q67
            refine J_aload_n C dX10_shot_221 rfl 0 rfl ?_
            refine gf_X10_page C hs wf_X10_7 dX10_shot_222 ?_
            refine J_bipush C dX10_shot_225 (by decide) ?_
            obtain ⟨b55, b56, h⟩ := h
            refine J_iald C (dmM hs kc280 (by decide)) (n := 12960) (clE_k E sL181 kc280) (by decide) b55 b56 dX10_shot_227 (fun g57 => ?_)
            exact J_iret C (Nat.zero_le _) (Nat.zero_le _) dX10_shot_228 (by rw [hF]; exact ⟨_, rfl, g57, h, nL181⟩)
          · replace h := h.2 q67
            refine J_aload_n C dX10_shot_193 rfl 0 rfl ?_
            refine gf_X10_page C hs wf_X10_7 dX10_shot_194 ?_
            refine J_bipush C dX10_shot_197 (by decide) ?_
            refine J_iload C dX10_shot_199 1 rfl ?_
            refine J_iadd C dX10_shot_201 ?_
            refine J_aload_n C dX10_shot_202 rfl 0 rfl ?_
            refine gf_X10_page C hs wf_X10_7 dX10_shot_203 ?_
            refine J_bipush C dX10_shot_206 (by decide) ?_
            refine J_iload C dX10_shot_208 1 rfl ?_
            refine J_iadd C dX10_shot_210 ?_
            refine J_iconst C dX10_shot_211 ?_
            refine J_iadd C dX10_shot_212 ?_
            obtain ⟨b58, b59, h⟩ := h
            refine J_iald C (dmM hs kc280 (by decide)) (n := 12960) (clE_k E sL181 kc280) (by decide) b58 b59 dX10_shot_213 (fun g60 => ?_)
            obtain ⟨b61, b62, h⟩ := h
            refine J_iast C (wrM hs kc280 (by decide)) (n := 12960) (fun z => clE_k E z kc280) (by decide) b61 b62 g60 dX10_shot_214 ?_
            obtain ⟨s63, f64⟩ : ∃ z : Sg, z = sI sL181 280 (22 + x5_181) (gI sL181 280 ((22 + x5_181) + 1)) := ⟨_, rfl⟩
            replace h := h s63 f64
            refine J_sig f64 ?_
            have n65 : gN s63 = gN s := by rw [f64]; exact nL181
            refine J_iinc C dX10_shot_215 1 rfl (by decide) (lv' := [(5, .int (jI (x5_181 + 1))), (0, .ref (adE E 279))]) rfl ?_
            refine J_goto C (tgt := 181) dX10_shot_218 (by decide) ?_
            obtain ⟨g66, h⟩ := h
            exact J_sub [1, 0] rfl (h g66 n65)
        )
        exact J_sub [1, 0] rfl (h g4 n51)
  have j81 : ∀ (x1 : Int) (x2 : Int) (x3 : Int) (x4 : Int) (sj : Sg), wj_X10_shot_81   x1 x2 x3 x4 sj Q → rgI x1 → rgI x2 → rgI x3 → rgI x4 → gN sj = gN s → JJ F E 0 0 sj 81 [(0, .ref (adE E 279)), (1, .int (jI x1)), (2, .int (jI x2)), (3, .int (jI x3)), (4, .int (jI x4))] [] := by
    intro x1 x2 x3 x4 sj h g1 g2 g3 g4 nj
    refine J_iload_n C dX10_shot_81 rfl 2 rfl ?_
    refine J_if_eq C g2 (tgt := 158) dX10_shot_82 (by decide) (fun q102 => ?_) (fun q102 => ?_)
    · replace h := h.1 q102
      exact J_sub [0, 2, 3, 4] rfl (j158 _ _ _ _ h g2 g3 g4 nj)
    · replace h := h.2 q102
      refine J_iload_n C dX10_shot_85 rfl 3 rfl ?_
      refine J_if_ne C g3 (tgt := 158) dX10_shot_86 (by decide) (fun q101 => ?_) (fun q101 => ?_)
      · replace h := h.2 q101
        exact J_sub [0, 2, 3, 4] rfl (j158 _ _ _ _ h g2 g3 g4 nj)
      · replace h := h.1 q101
        refine J_aload_n C dX10_shot_89 rfl 0 rfl ?_
        refine gf_X10_page C hs wf_X10_7 dX10_shot_90 ?_
        refine J_bipush C dX10_shot_93 (by decide) ?_
        obtain ⟨b70, b71, h⟩ := h
        refine J_iald C (dmM hs kc280 (by decide)) (n := 12960) (clE_k E sj kc280) (by decide) b70 b71 dX10_shot_95 (fun g72 => ?_)
        obtain ⟨x5_96, e73⟩ : ∃ v : Int, v = (gI sj 280 21) := ⟨_, rfl⟩
        replace h := h x5_96 e73
        have g5_96 : rgI x5_96 := by rw [e73]; exact g72
        refine J_top e73 ?_
        refine J_istore C dX10_shot_96 (by decide) (lv' := [(5, .int (jI x5_96)), (0, .ref (adE E 279)), (1, .int (jI x1)), (2, .int (jI x2)), (3, .int (jI x3)), (4, .int (jI x4))]) rfl ?_
        replace h := h (fun (x5_98 : Int) (sL98 : Sg) => rgI x5_98 → gN sL98 = gN s → JJ F E 0 0 sL98 98 [(0, .ref (adE E 279)), (1, .int (jI x1)), (4, .int (jI x4)), (5, .int (jI x5_98))] []) (by
          intro x5_98 sL98 h g5_98 nL98
          refine J_iload C dX10_shot_98 3 rfl ?_
          refine J_iload C dX10_shot_100 2 rfl ?_
          refine J_icmp_le C g5_98 g4 (tgt := 133) dX10_shot_102 (by decide) (fun q100 => ?_) (fun q100 => ?_)
          · replace h := h.1 q100
            refine J_aload_n C dX10_shot_133 rfl 0 rfl ?_
            refine gf_X10_page C hs wf_X10_7 dX10_shot_134 ?_
            refine J_bipush C dX10_shot_137 (by decide) ?_
            refine J_iload C dX10_shot_139 2 rfl ?_
            refine J_iadd C dX10_shot_141 ?_
            refine J_iload_n C dX10_shot_142 rfl 1 rfl ?_
            obtain ⟨b74, b75, h⟩ := h
            refine J_iast C (wrM hs kc280 (by decide)) (n := 12960) (fun z => clE_k E z kc280) (by decide) b74 b75 g1 dX10_shot_143 ?_
            obtain ⟨s76, f77⟩ : ∃ z : Sg, z = sI sL98 280 (22 + x4) x1 := ⟨_, rfl⟩
            replace h := h s76 f77
            refine J_sig f77 ?_
            have n78 : gN s76 = gN s := by rw [f77]; exact nL98
            refine J_aload_n C dX10_shot_144 rfl 0 rfl ?_
            refine gf_X10_page C hs wf_X10_7 dX10_shot_145 ?_
            refine J_bipush C dX10_shot_148 (by decide) ?_
            refine J_dup2 C dX10_shot_150 rfl rfl ?_
            obtain ⟨b79, b80, h⟩ := h
            refine J_iald C (dmM hs kc280 (by decide)) (n := 12960) (clE_k E s76 kc280) (by decide) b79 b80 dX10_shot_151 (fun g81 => ?_)
            refine J_iconst C dX10_shot_152 ?_
            refine J_iadd C dX10_shot_153 ?_
            obtain ⟨b82, b83, g84, h⟩ := h
            refine J_iast C (wrM hs kc280 (by decide)) (n := 12960) (fun z => clE_k E z kc280) (by decide) b82 b83 g84 dX10_shot_154 ?_
            obtain ⟨s85, f86⟩ : ∃ z : Sg, z = sI s76 280 21 ((gI s76 280 21) + 1) := ⟨_, rfl⟩
            replace h := h s85 f86
            refine J_sig f86 ?_
            have n87 : gN s85 = gN s := by rw [f86]; exact n78
            refine J_goto C (tgt := 221) dX10_shot_155 (by decide) ?_
            refine J_aload_n C dX10_shot_221 rfl 0 rfl ?_
            refine gf_X10_page C hs wf_X10_7 dX10_shot_222 ?_
            refine J_bipush C dX10_shot_225 (by decide) ?_
            obtain ⟨b88, b89, h⟩ := h
            refine J_iald C (dmM hs kc280 (by decide)) (n := 12960) (clE_k E s85 kc280) (by decide) b88 b89 dX10_shot_227 (fun g90 => ?_)
            exact J_iret C (Nat.zero_le _) (Nat.zero_le _) dX10_shot_228 (by rw [hF]; exact ⟨_, rfl, g90, h, n87⟩)
          · replace h := h.2 q100
            refine J_aload_n C dX10_shot_105 rfl 0 rfl ?_
            refine gf_X10_page C hs wf_X10_7 dX10_shot_106 ?_
            refine J_bipush C dX10_shot_109 (by decide) ?_
            refine J_iload C dX10_shot_111 3 rfl ?_
            refine J_iadd C dX10_shot_113 ?_
            refine J_aload_n C dX10_shot_114 rfl 0 rfl ?_
            refine gf_X10_page C hs wf_X10_7 dX10_shot_115 ?_
            refine J_bipush C dX10_shot_118 (by decide) ?_
            refine J_iload C dX10_shot_120 3 rfl ?_
            refine J_iadd C dX10_shot_122 ?_
            refine J_iconst C dX10_shot_123 ?_
            refine J_isub C dX10_shot_124 ?_
            obtain ⟨b91, b92, h⟩ := h
            refine J_iald C (dmM hs kc280 (by decide)) (n := 12960) (clE_k E sL98 kc280) (by decide) b91 b92 dX10_shot_125 (fun g93 => ?_)
            obtain ⟨b94, b95, h⟩ := h
            refine J_iast C (wrM hs kc280 (by decide)) (n := 12960) (fun z => clE_k E z kc280) (by decide) b94 b95 g93 dX10_shot_126 ?_
            obtain ⟨s96, f97⟩ : ∃ z : Sg, z = sI sL98 280 (22 + x5_98) (gI sL98 280 ((22 + x5_98) - 1)) := ⟨_, rfl⟩
            replace h := h s96 f97
            refine J_sig f97 ?_
            have n98 : gN s96 = gN s := by rw [f97]; exact nL98
            refine J_iinc C dX10_shot_127 3 rfl (by decide) (lv' := [(5, .int (jI (x5_98 + (-1)))), (0, .ref (adE E 279)), (1, .int (jI x1)), (4, .int (jI x4))]) rfl ?_
            refine J_goto C (tgt := 98) dX10_shot_130 (by decide) ?_
            obtain ⟨g99, h⟩ := h
            exact J_sub [1, 2, 3, 0] rfl (h g99 n98)
        )
        exact J_sub [1, 2, 5, 0] rfl (h g5_96 nj)
  have j42 : ∀ (x1 : Int) (x2 : Int) (x3 : Int) (sj : Sg), wj_X10_shot_42   x1 x2 x3 sj Q → rgI x1 → rgI x2 → rgI x3 → gN sj = gN s → JJ F E 0 0 sj 42 [(0, .ref (adE E 279)), (1, .int (jI x1)), (2, .int (jI x2)), (3, .int (jI x3))] [] := by
    intro x1 x2 x3 sj h g1 g2 g3 nj
    refine J_aload_n C dX10_shot_42 rfl 0 rfl ?_
    refine J_V C (ct_X10_records hs h) ck_X10_records wm_X10_68 win_X10_records wsel_X10_records (dmM hs kc279 (by decide)) (clE_k E sj kc279) rfl ⟨rfl, rfl⟩ (by decide) (by decide) (As := []) (rest := []) rfl rfl (Nat.le_of_ble_eq_true rfl) dX10_shot_43 (J_kV (fun s30 h n32 => ?_))
    have n33 : gN s30 = gN s := n32.trans (nj)
    refine J_iconst C dX10_shot_46 ?_
    refine J_istore C dX10_shot_47 (by decide) (lv' := [(4, .int (jI 0)), (0, .ref (adE E 279)), (1, .int (jI x1)), (2, .int (jI x2)), (3, .int (jI x3))]) rfl ?_
    replace h := h (fun (x4_49 : Int) => rgI x4_49 → JJ F E 0 0 s30 49 [(0, .ref (adE E 279)), (1, .int (jI x1)), (2, .int (jI x2)), (3, .int (jI x3)), (4, .int (jI x4_49))] []) (by
      intro x4_49 h g4_49
      refine J_iload C dX10_shot_49 4 rfl ?_
      refine J_aload_n C dX10_shot_51 rfl 0 rfl ?_
      refine gf_X10_page C hs wf_X10_7 dX10_shot_52 ?_
      refine J_bipush C dX10_shot_55 (by decide) ?_
      obtain ⟨b34, b35, h⟩ := h
      refine J_iald C (dmM hs kc280 (by decide)) (n := 12960) (clE_k E s30 kc280) (by decide) b34 b35 dX10_shot_57 (fun g36 => ?_)
      refine J_icmp_ge C g4_49 g36 (tgt := 81) dX10_shot_58 (by decide) (fun q108 => ?_) (fun q108 => ?_)
      · replace h := h.1 q108
        exact J_sub [0, 1, 2, 3, 4] rfl (j81 _ _ _ _ _ h g1 g2 g3 g4_49 n33)
      · replace h := h.2 q108
        refine J_aload_n C dX10_shot_61 rfl 0 rfl ?_
        refine gf_X10_page C hs wf_X10_7 dX10_shot_62 ?_
        refine J_bipush C dX10_shot_65 (by decide) ?_
        refine J_iload C dX10_shot_67 4 rfl ?_
        refine J_iadd C dX10_shot_69 ?_
        obtain ⟨b103, b104, h⟩ := h
        refine J_iald C (dmM hs kc280 (by decide)) (n := 12960) (clE_k E s30 kc280) (by decide) b103 b104 dX10_shot_70 (fun g105 => ?_)
        refine J_iload_n C dX10_shot_71 rfl 1 rfl ?_
        refine J_icmp_ge C g105 g1 (tgt := 81) dX10_shot_72 (by decide) (fun q107 => ?_) (fun q107 => ?_)
        · replace h := h.1 q107
          exact J_sub [0, 1, 2, 3, 4] rfl (j81 _ _ _ _ _ h g1 g2 g3 g4_49 n33)
        · replace h := h.2 q107
          refine J_iinc C dX10_shot_75 4 rfl (by decide) (lv' := [(4, .int (jI (x4_49 + 1))), (0, .ref (adE E 279)), (1, .int (jI x1)), (2, .int (jI x2)), (3, .int (jI x3))]) rfl ?_
          refine J_goto C (tgt := 49) dX10_shot_78 (by decide) ?_
          obtain ⟨g106, h⟩ := h
          exact J_sub [1, 2, 3, 4, 0] rfl (h g106)
    )
    exact J_sub [1, 2, 3, 4, 0] rfl (h (rgN 0 (by decide)))
  refine J_iload_n C dX10_shot_0 rfl 1 rfl ?_
  refine J_iconst C dX10_shot_1 ?_
  refine J_sipush C dX10_shot_2 (by decide) ?_
  refine J_S C (ct_X10_in hs g1 (rgN 1 (by decide)) (rgN 9998 (by decide)) h) ck_X10_in wm_X10_60 wst_X10_in ⟨rfl, rfl⟩ (by decide) (by decide) (As := [.int (jI x1), .int (jI 1), .int (jI 9998)]) (rest := []) rfl rfl (Nat.le_of_ble_eq_true rfl) dX10_shot_5 (J_pZ (fun v21 g23 h => ?_))
  refine J_if_ne C (rg_z g23) (tgt := 13) dX10_shot_8 (by decide) (fun q115 => ?_) (fun q115 => ?_)
  · replace h := h.2 q115
    refine J_aload_n C dX10_shot_13 rfl 0 rfl ?_
    refine J_iload_n C dX10_shot_14 rfl 1 rfl ?_
    refine J_V C (ct_X10_isShot hs g1 h) ck_X10_isShot wm_X10_78 win_X10_isShot wsel_X10_isShot (dmM hs kc279 (by decide)) (clE_k E s kc279) rfl ⟨rfl, rfl⟩ (by decide) (by decide) (As := [.int (jI x1)]) (rest := []) rfl rfl (Nat.le_of_ble_eq_true rfl) dX10_shot_15 (J_pZ (fun v25 g27 h => ?_))
    refine J_istore_n C dX10_shot_18 rfl (by decide) (lv' := [(3, .int (jI v25)), (0, .ref (adE E 279)), (1, .int (jI x1)), (2, .int (jI x2))]) rfl ?_
    refine J_iload_n C dX10_shot_19 rfl 3 rfl ?_
    refine J_if_eq C g2 (tgt := 42) dX10_shot_20 (by decide) (fun q114 => ?_) (fun q114 => ?_)
    · replace h := h.1 q114
      exact J_sub [1, 2, 3, 0] rfl (j42 _ _ _ _ h g1 g2 (rg_z g27) rfl)
    · replace h := h.2 q114
      refine J_iload_n C dX10_shot_23 rfl 0 rfl ?_
      refine J_if_ne C (rg_z g27) (tgt := 42) dX10_shot_24 (by decide) (fun q113 => ?_) (fun q113 => ?_)
      · replace h := h.2 q113
        exact J_sub [1, 2, 3, 0] rfl (j42 _ _ _ _ h g1 g2 (rg_z g27) rfl)
      · replace h := h.1 q113
        refine J_aload_n C dX10_shot_27 rfl 1 rfl ?_
        refine gf_X10_page C hs wf_X10_7 dX10_shot_28 ?_
        refine J_bipush C dX10_shot_31 (by decide) ?_
        obtain ⟨b109, b110, h⟩ := h
        refine J_iald C (dmM hs kc280 (by decide)) (n := 12960) (clE_k E s kc280) (by decide) b109 b110 dX10_shot_33 (fun g111 => ?_)
        refine J_bipush C dX10_shot_34 (by decide) ?_
        refine J_icmp_ne C g111 (rgN 20 (by decide)) (tgt := 42) dX10_shot_36 (by decide) (fun q112 => ?_) (fun q112 => ?_)
        · replace h := h.2 q112
          exact J_sub [1, 2, 3, 0] rfl (j42 _ _ _ _ h g1 g2 (rg_z g27) rfl)
        · replace h := h.1 q112
          refine J_bipush C dX10_shot_39 (by decide) ?_
          exact J_iret C (Nat.zero_le _) (Nat.zero_le _) dX10_shot_41 (by rw [hF]; exact ⟨_, rfl, (rgN (-3) (by decide)), h, rfl⟩)
  · replace h := h.1 q115
    refine J_iconst C dX10_shot_11 ?_
    exact J_iret C (Nat.zero_le _) (Nat.zero_le _) dX10_shot_12 (by rw [hF]; exact ⟨_, rfl, (rgN (-1) (by decide)), h, rfl⟩)
set_option maxHeartbeats 4000000 in
set_option maxRecDepth 100000 in
theorem ct_X10_shotAt {l : Launch} {E : ET} (hs : eS E = false) {s : Sg} {x1 : Int} (g1 : rgI x1) {Q : Int → Prop} (h : wp_X10_shotAt x1 s Q) : MetE l E yX10_shotAt cX10_shotAt 2 (some .int) rm_X10_shotAt s [.ref (adE E 279), .int (jI x1)] (qI (fun r t => Q r ∧ t = s) (gN s)) := by
  refine MetJ (by decide +kernel) (Nat.le_of_ble_eq_true rfl) ?_
  intro F hl C hF
  subst hl
  show JJ F E 0 0 s 0 [(0, .ref (adE E 279)), (1, .int (jI x1))] []
  refine J_iload_n C dX10_shotAt_0 rfl 1 rfl ?_
  refine J_if_ge C g1 (tgt := 8) dX10_shotAt_1 (by decide) (fun q28 => ?_) (fun q28 => ?_)
  · replace h := h.1 q28
    refine J_iload_n C dX10_shotAt_8 rfl 1 rfl ?_
    refine J_aload_n C dX10_shotAt_9 rfl 0 rfl ?_
    refine gf_X10_page C hs wf_X10_7 dX10_shotAt_10 ?_
    refine J_bipush C dX10_shotAt_13 (by decide) ?_
    obtain ⟨b21, b22, h⟩ := h
    refine J_iald C (dmM hs kc280 (by decide)) (n := 12960) (clE_k E s kc280) (by decide) b21 b22 dX10_shotAt_15 (fun g23 => ?_)
    refine J_icmp_ge C g1 g23 (tgt := 31) dX10_shotAt_16 (by decide) (fun q27 => ?_) (fun q27 => ?_)
    · replace h := h.1 q27
      refine J_bipush C dX10_shotAt_31 (by decide) ?_
      exact J_iret C (Nat.zero_le _) (Nat.zero_le _) dX10_shotAt_33 (by rw [hF]; exact ⟨_, rfl, (rgN (-9) (by decide)), ⟨h, rfl⟩, rfl⟩)
    · replace h := h.2 q27
      refine J_aload_n C dX10_shotAt_19 rfl 0 rfl ?_
      refine gf_X10_page C hs wf_X10_7 dX10_shotAt_20 ?_
      refine J_bipush C dX10_shotAt_23 (by decide) ?_
      refine J_iload_n C dX10_shotAt_25 rfl 1 rfl ?_
      refine J_iadd C dX10_shotAt_26 ?_
      obtain ⟨b24, b25, h⟩ := h
      refine J_iald C (dmM hs kc280 (by decide)) (n := 12960) (clE_k E s kc280) (by decide) b24 b25 dX10_shotAt_27 (fun g26 => ?_)
      refine J_goto C (tgt := 33) dX10_shotAt_28 (by decide) ?_
      exact J_iret C (Nat.zero_le _) (Nat.zero_le _) dX10_shotAt_33 (by rw [hF]; exact ⟨_, rfl, g26, ⟨h, rfl⟩, rfl⟩)
  · replace h := h.2 q28
    refine J_iconst C dX10_shotAt_4 ?_
    refine J_goto C (tgt := 33) dX10_shotAt_5 (by decide) ?_
    exact J_iret C (Nat.zero_le _) (Nat.zero_le _) dX10_shotAt_33 (by rw [hF]; exact ⟨_, rfl, (rgN (-1) (by decide)), ⟨h, rfl⟩, rfl⟩)
set_option maxHeartbeats 4000000 in
set_option maxRecDepth 100000 in
theorem ct_X10_toNew {l : Launch} {E : ET} (hs : eS E = false) {s : Sg} {x1 : Int} (g1 : rgI x1) {x2 : Int} (g2 : rgI x2) {Q : Int → Prop} (h : wp_X10_toNew x1 x2 s Q) : MetE l E yX10_toNew cX10_toNew 6 (some .int) rm_X10_toNew s [.ref (adE E 279), .int (jI x1), .int (jI x2)] (qI (fun r t => Q r ∧ t = s) (gN s)) := by
  refine MetJ (by decide +kernel) (Nat.le_of_ble_eq_true rfl) ?_
  intro F hl C hF
  subst hl
  show JJ F E 0 0 s 0 [(0, .ref (adE E 279)), (1, .int (jI x1)), (2, .int (jI x2))] []
  refine J_iload_n C dX10_toNew_0 rfl 1 rfl ?_
  refine J_iconst C dX10_toNew_1 ?_
  refine J_sipush C dX10_toNew_2 (by decide) ?_
  refine J_S C (ct_X10_in hs g1 (rgN 0 (by decide)) (rgN 9999 (by decide)) h) ck_X10_in wm_X10_60 wst_X10_in ⟨rfl, rfl⟩ (by decide) (by decide) (As := [.int (jI x1), .int (jI 0), .int (jI 9999)]) (rest := []) rfl rfl (Nat.le_of_ble_eq_true rfl) dX10_toNew_5 (J_pZ (fun v21 g23 h => ?_))
  refine J_if_eq C (rg_z g23) (tgt := 15) dX10_toNew_8 (by decide) (fun q49 => ?_) (fun q49 => ?_)
  · replace h := h.1 q49
    refine J_iconst C dX10_toNew_15 ?_
    exact J_iret C (Nat.zero_le _) (Nat.zero_le _) dX10_toNew_16 (by rw [hF]; exact ⟨_, rfl, (rgN (-1) (by decide)), ⟨h, rfl⟩, rfl⟩)
  · replace h := h.2 q49
    refine J_iload_n C dX10_toNew_11 rfl 2 rfl ?_
    refine J_if_ge C g2 (tgt := 17) dX10_toNew_12 (by decide) (fun q48 => ?_) (fun q48 => ?_)
    · replace h := h.1 q48
      refine J_iload_n C dX10_toNew_17 rfl 2 rfl ?_
      refine J_istore_n C dX10_toNew_18 rfl (by decide) (lv' := [(3, .int (jI x2)), (0, .ref (adE E 279)), (1, .int (jI x1)), (2, .int (jI x2))]) rfl ?_
      refine J_iconst C dX10_toNew_19 ?_
      refine J_istore C dX10_toNew_20 (by decide) (lv' := [(4, .int (jI 0)), (3, .int (jI x2)), (0, .ref (adE E 279)), (1, .int (jI x1)), (2, .int (jI x2))]) rfl ?_
      replace h := h (fun (x3_22 : Int) (x4_22 : Int) => rgI x3_22 → rgI x4_22 → JJ F E 0 0 s 22 [(0, .ref (adE E 279)), (1, .int (jI x1)), (3, .int (jI x3_22)), (4, .int (jI x4_22))] []) (by
        intro x3_22 x4_22 h g3_22 g4_22
        have j76 : ∀ (x3 : Int) (x4 : Int), wj_X10_toNew_76 (fun (x3_22 : Int) (x4_22 : Int) => rgI x3_22 → rgI x4_22 → JJ F E 0 0 s 22 [(0, .ref (adE E 279)), (1, .int (jI x1)), (3, .int (jI x3_22)), (4, .int (jI x4_22))] []) x1 x3 x4 s Q → rgI x3 → rgI x4 → JJ F E 0 0 s 76 [(0, .ref (adE E 279)), (1, .int (jI x1)), (3, .int (jI x3)), (4, .int (jI x4))] [] := by
          intro x3 x4 h g3 g4
          refine J_iinc C dX10_toNew_76 3 rfl (by decide) (lv' := [(4, .int (jI (x4 + 1))), (0, .ref (adE E 279)), (1, .int (jI x1)), (3, .int (jI x3))]) rfl ?_
          refine J_goto C (tgt := 22) dX10_toNew_79 (by decide) ?_
          obtain ⟨g33, h⟩ := h
          exact J_sub [1, 2, 3, 0] rfl (h g3 g33)
        refine J_iload C dX10_toNew_22 3 rfl ?_
        refine J_aload_n C dX10_toNew_24 rfl 0 rfl ?_
        refine gf_X10_page C hs wf_X10_7 dX10_toNew_25 ?_
        refine J_iconst C dX10_toNew_28 ?_
        obtain ⟨b25, b26, h⟩ := h
        refine J_iald C (dmM hs kc280 (by decide)) (n := 12960) (clE_k E s kc280) (by decide) b25 b26 dX10_toNew_29 (fun g27 => ?_)
        refine J_icmp_ge C g4_22 g27 (tgt := 82) dX10_toNew_30 (by decide) (fun q47 => ?_) (fun q47 => ?_)
        · replace h := h.1 q47
          refine J_bipush C dX10_toNew_82 (by decide) ?_
          exact J_iret C (Nat.zero_le _) (Nat.zero_le _) dX10_toNew_84 (by rw [hF]; exact ⟨_, rfl, (rgN (-9) (by decide)), ⟨h, rfl⟩, rfl⟩)
        · replace h := h.2 q47
          refine J_iload_n C dX10_toNew_33 rfl 1 rfl ?_
          refine J_aload_n C dX10_toNew_34 rfl 0 rfl ?_
          refine J_iload C dX10_toNew_35 3 rfl ?_
          refine J_V C (ct_X10_pieceFirst hs g4_22 h) ck_X10_pieceFirst wm_X10_75 win_X10_pieceFirst wsel_X10_pieceFirst (dmM hs kc279 (by decide)) (clE_k E s kc279) rfl ⟨rfl, rfl⟩ (by decide) (by decide) (As := [.int (jI x4_22)]) (rest := [.int (jI x1)]) rfl rfl (Nat.le_of_ble_eq_true rfl) dX10_toNew_37 (J_pI (fun v28 g30 h => ?_))
          refine J_isub C dX10_toNew_40 ?_
          obtain ⟨x5_41, e32⟩ : ∃ v : Int, v = (x1 - v28) := ⟨_, rfl⟩
          obtain ⟨g5_41, h⟩ := h x5_41 e32
          refine J_top e32 ?_
          refine J_istore C dX10_toNew_41 (by decide) (lv' := [(5, .int (jI x5_41)), (0, .ref (adE E 279)), (1, .int (jI x1)), (3, .int (jI x3_22)), (4, .int (jI x4_22))]) rfl ?_
          refine J_iload C dX10_toNew_43 0 rfl ?_
          refine J_if_lt C g5_41 (tgt := 76) dX10_toNew_45 (by decide) (fun q46 => ?_) (fun q46 => ?_)
          · replace h := h.1 q46
            exact J_sub [1, 2, 3, 4] rfl (j76 _ _ h g3_22 g4_22)
          · replace h := h.2 q46
            refine J_iload C dX10_toNew_48 0 rfl ?_
            refine J_aload_n C dX10_toNew_50 rfl 1 rfl ?_
            refine J_iload C dX10_toNew_51 4 rfl ?_
            refine J_V C (ct_X10_pieceLong hs g4_22 h) ck_X10_pieceLong wm_X10_53 win_X10_pieceLong wsel_X10_pieceLong (dmM hs kc279 (by decide)) (clE_k E s kc279) rfl ⟨rfl, rfl⟩ (by decide) (by decide) (As := [.int (jI x4_22)]) (rest := [.int (jI x5_41)]) rfl rfl (Nat.le_of_ble_eq_true rfl) dX10_toNew_53 (J_pI (fun v34 g36 h => ?_))
            refine J_icmp_ge C g5_41 g36 (tgt := 76) dX10_toNew_56 (by decide) (fun q45 => ?_) (fun q45 => ?_)
            · replace h := h.1 q45
              exact J_sub [1, 2, 3, 4] rfl (j76 _ _ h g3_22 g4_22)
            · replace h := h.2 q45
              refine J_iload_n C dX10_toNew_59 rfl 3 rfl ?_
              refine J_if_ne C g3_22 (tgt := 73) dX10_toNew_60 (by decide) (fun q44 => ?_) (fun q44 => ?_)
              · replace h := h.2 q44
                refine J_iinc C dX10_toNew_73 3 rfl (by decide) (lv' := [(3, .int (jI (x3_22 + (-1)))), (5, .int (jI x5_41)), (0, .ref (adE E 279)), (1, .int (jI x1)), (4, .int (jI x4_22))]) rfl ?_
                obtain ⟨g38, h⟩ := h
                exact J_sub [2, 3, 0, 4] rfl (j76 _ _ h g38 g4_22)
              · replace h := h.1 q44
                refine J_aload_n C dX10_toNew_63 rfl 1 rfl ?_
                refine J_iload C dX10_toNew_64 4 rfl ?_
                refine J_V C (ct_X10_pieceNew hs g4_22 h) ck_X10_pieceNew wm_X10_57 win_X10_pieceNew wsel_X10_pieceNew (dmM hs kc279 (by decide)) (clE_k E s kc279) rfl ⟨rfl, rfl⟩ (by decide) (by decide) (As := [.int (jI x4_22)]) (rest := []) rfl rfl (Nat.le_of_ble_eq_true rfl) dX10_toNew_66 (J_pI (fun v39 g41 h => ?_))
                refine J_iload C dX10_toNew_69 0 rfl ?_
                refine J_iadd C dX10_toNew_71 ?_
                obtain ⟨g43, h⟩ := h
                exact J_iret C (Nat.zero_le _) (Nat.zero_le _) dX10_toNew_72 (by rw [hF]; exact ⟨_, rfl, g43, ⟨h, rfl⟩, rfl⟩)
      )
      exact J_sub [2, 3, 1, 0] rfl (h g2 (rgN 0 (by decide)))
    · replace h := h.2 q48
      refine J_iconst C dX10_toNew_15 ?_
      exact J_iret C (Nat.zero_le _) (Nat.zero_le _) dX10_toNew_16 (by rw [hF]; exact ⟨_, rfl, (rgN (-1) (by decide)), ⟨h, rfl⟩, rfl⟩)
set_option maxHeartbeats 4000000 in
set_option maxRecDepth 100000 in
theorem ct_X10_toOld {l : Launch} {E : ET} (hs : eS E = false) {s : Sg} {x1 : Int} (g1 : rgI x1) {Q : Int → Prop} (h : wp_X10_toOld x1 s Q) : MetE l E yX10_toOld cX10_toOld 4 (some .int) rm_X10_toOld s [.ref (adE E 279), .int (jI x1)] (qI (fun r t => Q r ∧ t = s) (gN s)) := by
  refine MetJ (by decide +kernel) (Nat.le_of_ble_eq_true rfl) ?_
  intro F hl C hF
  subst hl
  show JJ F E 0 0 s 0 [(0, .ref (adE E 279)), (1, .int (jI x1))] []
  refine J_iload_n C dX10_toOld_0 rfl 1 rfl ?_
  refine J_iconst C dX10_toOld_1 ?_
  refine J_sipush C dX10_toOld_2 (by decide) ?_
  refine J_S C (ct_X10_in hs g1 (rgN 0 (by decide)) (rgN 9999 (by decide)) h) ck_X10_in wm_X10_60 wst_X10_in ⟨rfl, rfl⟩ (by decide) (by decide) (As := [.int (jI x1), .int (jI 0), .int (jI 9999)]) (rest := []) rfl rfl (Nat.le_of_ble_eq_true rfl) dX10_toOld_5 (J_pZ (fun v21 g23 h => ?_))
  refine J_if_ne C (rg_z g23) (tgt := 13) dX10_toOld_8 (by decide) (fun q45 => ?_) (fun q45 => ?_)
  · replace h := h.2 q45
    refine J_iload_n C dX10_toOld_13 rfl 1 rfl ?_
    refine J_istore_n C dX10_toOld_14 rfl (by decide) (lv' := [(2, .int (jI x1)), (0, .ref (adE E 279)), (1, .int (jI x1))]) rfl ?_
    refine J_iconst C dX10_toOld_15 ?_
    refine J_istore_n C dX10_toOld_16 rfl (by decide) (lv' := [(3, .int (jI 0)), (2, .int (jI x1)), (0, .ref (adE E 279)), (1, .int (jI x1))]) rfl ?_
    replace h := h (fun (x2_17 : Int) (x3_17 : Int) => rgI x2_17 → rgI x3_17 → JJ F E 0 0 s 17 [(0, .ref (adE E 279)), (2, .int (jI x2_17)), (3, .int (jI x3_17))] []) (by
      intro x2_17 x3_17 h g2_17 g3_17
      refine J_iload_n C dX10_toOld_17 rfl 2 rfl ?_
      refine J_aload_n C dX10_toOld_18 rfl 0 rfl ?_
      refine gf_X10_page C hs wf_X10_7 dX10_toOld_19 ?_
      refine J_iconst C dX10_toOld_22 ?_
      obtain ⟨b25, b26, h⟩ := h
      refine J_iald C (dmM hs kc280 (by decide)) (n := 12960) (clE_k E s kc280) (by decide) b25 b26 dX10_toOld_23 (fun g27 => ?_)
      refine J_icmp_ge C g3_17 g27 (tgt := 58) dX10_toOld_24 (by decide) (fun q44 => ?_) (fun q44 => ?_)
      · replace h := h.1 q44
        refine J_bipush C dX10_toOld_58 (by decide) ?_
        exact J_iret C (Nat.zero_le _) (Nat.zero_le _) dX10_toOld_60 (by rw [hF]; exact ⟨_, rfl, (rgN (-9) (by decide)), ⟨h, rfl⟩, rfl⟩)
      · replace h := h.2 q44
        refine J_iload_n C dX10_toOld_27 rfl 1 rfl ?_
        refine J_aload_n C dX10_toOld_28 rfl 0 rfl ?_
        refine J_iload_n C dX10_toOld_29 rfl 2 rfl ?_
        refine J_V C (ct_X10_pieceLong hs g3_17 h) ck_X10_pieceLong wm_X10_53 win_X10_pieceLong wsel_X10_pieceLong (dmM hs kc279 (by decide)) (clE_k E s kc279) rfl ⟨rfl, rfl⟩ (by decide) (by decide) (As := [.int (jI x3_17)]) (rest := [.int (jI x2_17)]) rfl rfl (Nat.le_of_ble_eq_true rfl) dX10_toOld_30 (J_pI (fun v28 g30 h => ?_))
        refine J_icmp_ge C g2_17 g30 (tgt := 44) dX10_toOld_33 (by decide) (fun q43 => ?_) (fun q43 => ?_)
        · replace h := h.1 q43
          refine J_iload_n C dX10_toOld_44 rfl 1 rfl ?_
          refine J_aload_n C dX10_toOld_45 rfl 0 rfl ?_
          refine J_iload_n C dX10_toOld_46 rfl 2 rfl ?_
          refine J_V C (ct_X10_pieceLong hs g3_17 h) ck_X10_pieceLong wm_X10_53 win_X10_pieceLong wsel_X10_pieceLong (dmM hs kc279 (by decide)) (clE_k E s kc279) rfl ⟨rfl, rfl⟩ (by decide) (by decide) (As := [.int (jI x3_17)]) (rest := [.int (jI x2_17)]) rfl rfl (Nat.le_of_ble_eq_true rfl) dX10_toOld_47 (J_pI (fun v32 g34 h => ?_))
          refine J_isub C dX10_toOld_50 ?_
          obtain ⟨x2_51, e36⟩ : ∃ v : Int, v = (x2_17 - v32) := ⟨_, rfl⟩
          obtain ⟨g2_51, h⟩ := h x2_51 e36
          refine J_top e36 ?_
          refine J_istore_n C dX10_toOld_51 rfl (by decide) (lv' := [(2, .int (jI x2_51)), (0, .ref (adE E 279)), (3, .int (jI x3_17))]) rfl ?_
          refine J_iinc C dX10_toOld_52 2 rfl (by decide) (lv' := [(3, .int (jI (x3_17 + 1))), (2, .int (jI x2_51)), (0, .ref (adE E 279))]) rfl ?_
          refine J_goto C (tgt := 17) dX10_toOld_55 (by decide) ?_
          obtain ⟨g37, h⟩ := h
          exact J_sub [2, 1, 0] rfl (h g2_51 g37)
        · replace h := h.2 q43
          refine J_aload_n C dX10_toOld_36 rfl 0 rfl ?_
          refine J_iload_n C dX10_toOld_37 rfl 2 rfl ?_
          refine J_V C (ct_X10_pieceFirst hs g3_17 h) ck_X10_pieceFirst wm_X10_75 win_X10_pieceFirst wsel_X10_pieceFirst (dmM hs kc279 (by decide)) (clE_k E s kc279) rfl ⟨rfl, rfl⟩ (by decide) (by decide) (As := [.int (jI x3_17)]) (rest := []) rfl rfl (Nat.le_of_ble_eq_true rfl) dX10_toOld_38 (J_pI (fun v38 g40 h => ?_))
          refine J_iload_n C dX10_toOld_41 rfl 1 rfl ?_
          refine J_iadd C dX10_toOld_42 ?_
          obtain ⟨g42, h⟩ := h
          exact J_iret C (Nat.zero_le _) (Nat.zero_le _) dX10_toOld_43 (by rw [hF]; exact ⟨_, rfl, g42, ⟨h, rfl⟩, rfl⟩)
    )
    exact J_sub [2, 1, 0] rfl (h g1 (rgN 0 (by decide)))
  · replace h := h.1 q45
    refine J_iconst C dX10_toOld_11 ?_
    exact J_iret C (Nat.zero_le _) (Nat.zero_le _) dX10_toOld_12 (by rw [hF]; exact ⟨_, rfl, (rgN (-1) (by decide)), ⟨h, rfl⟩, rfl⟩)
set_option maxHeartbeats 4000000 in
set_option maxRecDepth 100000 in
theorem ct_X10_at {l : Launch} {E : ET} (hs : eS E = false) {s : Sg} {x1 : Int} (g1 : rgI x1) {Q : Int → Prop} (h : wp_X10_at x1 s Q) : MetE l E yX10_at cX10_at 2 (some .int) rm_X10_at s [.ref (adE E 279), .int (jI x1)] (qI (fun r t => Q r ∧ t = s) (gN s)) := by
  refine MetJ (by decide +kernel) (Nat.le_of_ble_eq_true rfl) ?_
  intro F hl C hF
  subst hl
  show JJ F E 0 0 s 0 [(0, .ref (adE E 279)), (1, .int (jI x1))] []
  refine J_bipush C dX10_at_0 (by decide) ?_
  refine J_bipush C dX10_at_2 (by decide) ?_
  refine J_iload_n C dX10_at_4 rfl 1 rfl ?_
  refine J_imul C dX10_at_5 ?_
  refine J_iadd C dX10_at_6 ?_
  obtain ⟨g21, h⟩ := h
  exact J_iret C (Nat.zero_le _) (Nat.zero_le _) dX10_at_7 (by rw [hF]; exact ⟨_, rfl, g21, ⟨h, rfl⟩, rfl⟩)
set_option maxHeartbeats 4000000 in
set_option maxRecDepth 100000 in
theorem ct_X10_partAt {l : Launch} {E : ET} (hs : eS E = false) {s : Sg} {x1 : Int} (g1 : rgI x1) {Q : Int → Prop} (h : wp_X10_partAt x1 s Q) : MetE l E yX10_partAt cX10_partAt 2 (some .int) rm_X10_partAt s [.ref (adE E 279), .int (jI x1)] (qI (fun r t => Q r ∧ t = s) (gN s)) := by
  refine MetJ (by decide +kernel) (Nat.le_of_ble_eq_true rfl) ?_
  intro F hl C hF
  subst hl
  show JJ F E 0 0 s 0 [(0, .ref (adE E 279)), (1, .int (jI x1))] []
  refine J_aload_n C dX10_partAt_0 rfl 0 rfl ?_
  refine J_iload_n C dX10_partAt_1 rfl 1 rfl ?_
  refine J_iconst C dX10_partAt_2 ?_
  refine J_idiv C g1 (rgN 2 (by decide)) (by decide) dX10_partAt_3 ?_
  obtain ⟨g21, h⟩ := h
  refine J_V C (ct_X10_at hs g21 h) ck_X10_at wm_X10_81 win_X10_at wsel_X10_at (dmM hs kc279 (by decide)) (clE_k E s kc279) rfl ⟨rfl, rfl⟩ (by decide) (by decide) (As := [.int (jI (Int.tdiv x1 2))]) (rest := []) rfl rfl (Nat.le_of_ble_eq_true rfl) dX10_partAt_4 (J_pI (fun v22 g24 h => ?_))
  refine J_iconst C dX10_partAt_7 ?_
  refine J_iadd C dX10_partAt_8 ?_
  refine J_bipush C dX10_partAt_9 (by decide) ?_
  refine J_iload_n C dX10_partAt_11 rfl 1 rfl ?_
  refine J_iconst C dX10_partAt_12 ?_
  refine J_irem C g1 (rgN 2 (by decide)) (by decide) dX10_partAt_13 ?_
  refine J_imul C dX10_partAt_14 ?_
  refine J_iadd C dX10_partAt_15 ?_
  obtain ⟨g26, h⟩ := h
  exact J_iret C (Nat.zero_le _) (Nat.zero_le _) dX10_partAt_16 (by rw [hF]; exact ⟨_, rfl, g26, ⟨h, rfl⟩, rfl⟩)
set_option maxHeartbeats 4000000 in
set_option maxRecDepth 100000 in
theorem ct_X10_takes {l : Launch} {E : ET} (hs : eS E = false) {s : Sg} {Q : Sg → Prop} (h : wp_X10_takes s Q) : MetE l E yX10_takes cX10_takes 2 none rm_X10_takes s [.ref (adE E 279)] (qV Q (gN s)) := by
  refine MetJ (by decide +kernel) (Nat.le_of_ble_eq_true rfl) ?_
  intro F hl C hF
  subst hl
  show JJ F E 0 0 s 0 [(0, .ref (adE E 279))] []
  refine J_aload_n C dX10_takes_0 rfl 0 rfl ?_
  refine J_aload_n C dX10_takes_1 rfl 0 rfl ?_
  refine gf_X10_page C hs wf_X10_7 dX10_takes_2 ?_
  refine J_bipush C dX10_takes_5 (by decide) ?_
  obtain ⟨b21, b22, h⟩ := h
  refine J_iald C (dmM hs kc280 (by decide)) (n := 12960) (clE_k E s kc280) (by decide) b21 b22 dX10_takes_7 (fun g23 => ?_)
  refine pf_X10_many C hs wf_X10_84 g23 dX10_takes_8 ?_
  obtain ⟨s24, f25⟩ : ∃ z : Sg, z = sI s 279 9 (gI s 280 42) := ⟨_, rfl⟩
  replace h := h s24 f25
  refine J_sig f25 ?_
  have n26 : gN s24 = gN s := by rw [f25]; exact rfl
  refine J_iconst C dX10_takes_11 ?_
  refine J_istore_n C dX10_takes_12 rfl (by decide) (lv' := [(1, .int (jI 0)), (0, .ref (adE E 279))]) rfl ?_
  replace h := h (fun (x1_13 : Int) (sL13 : Sg) => rgI x1_13 → gN sL13 = gN s → JJ F E 0 0 sL13 13 [(0, .ref (adE E 279)), (1, .int (jI x1_13))] []) (by
    intro x1_13 sL13 h g1_13 nL13
    refine J_iload_n C dX10_takes_13 rfl 1 rfl ?_
    refine J_aload_n C dX10_takes_14 rfl 0 rfl ?_
    refine gf_X10_many C hs wf_X10_84 dX10_takes_15 (fun g27 => ?_)
    refine J_icmp_ge C g1_13 g27 (tgt := 99) dX10_takes_18 (by decide) (fun q77 => ?_) (fun q77 => ?_)
    · replace h := h.1 q77
      exact J_vret C (Nat.zero_le _) (Nat.zero_le _) dX10_takes_99 (by rw [hF]; exact ⟨rfl, h, nL13⟩)
    · replace h := h.2 q77
      refine J_aload_n C dX10_takes_21 rfl 0 rfl ?_
      refine gf_X10_begins C hs wf_X10_16 dX10_takes_22 ?_
      refine J_iload_n C dX10_takes_25 rfl 1 rfl ?_
      refine J_aload_n C dX10_takes_26 rfl 0 rfl ?_
      refine gf_X10_page C hs wf_X10_7 dX10_takes_27 ?_
      refine J_aload_n C dX10_takes_30 rfl 0 rfl ?_
      refine J_iload_n C dX10_takes_31 rfl 1 rfl ?_
      refine J_V C (ct_X10_at hs g1_13 h) ck_X10_at wm_X10_81 win_X10_at wsel_X10_at (dmM hs kc279 (by decide)) (clE_k E sL13 kc279) rfl ⟨rfl, rfl⟩ (by decide) (by decide) (As := [.int (jI x1_13)]) (rest := [.ref (adE E 280), .int (jI x1_13), .ref (adE E 282)]) rfl rfl (Nat.le_of_ble_eq_true rfl) dX10_takes_32 (J_pI (fun v28 g30 h => ?_))
      obtain ⟨b32, b33, h⟩ := h
      refine J_iald C (dmM hs kc280 (by decide)) (n := 12960) (clE_k E sL13 kc280) (by decide) b32 b33 dX10_takes_35 (fun g34 => ?_)
      obtain ⟨b35, b36, h⟩ := h
      refine J_iast C (wrM hs kc282 (by decide)) (n := 16) (fun z => clE_k E z kc282) (by decide) b35 b36 g34 dX10_takes_36 ?_
      obtain ⟨s37, f38⟩ : ∃ z : Sg, z = sI sL13 282 x1_13 (gI sL13 280 v28) := ⟨_, rfl⟩
      replace h := h s37 f38
      refine J_sig f38 ?_
      have n39 : gN s37 = gN s := by rw [f38]; exact nL13
      refine J_aload_n C dX10_takes_37 rfl 0 rfl ?_
      refine gf_X10_ends C hs wf_X10_19 dX10_takes_38 ?_
      refine J_iload_n C dX10_takes_41 rfl 1 rfl ?_
      refine J_aload_n C dX10_takes_42 rfl 0 rfl ?_
      refine gf_X10_page C hs wf_X10_7 dX10_takes_43 ?_
      refine J_aload_n C dX10_takes_46 rfl 0 rfl ?_
      refine J_iload_n C dX10_takes_47 rfl 1 rfl ?_
      refine J_V C (ct_X10_at hs g1_13 h) ck_X10_at wm_X10_81 win_X10_at wsel_X10_at (dmM hs kc279 (by decide)) (clE_k E s37 kc279) rfl ⟨rfl, rfl⟩ (by decide) (by decide) (As := [.int (jI x1_13)]) (rest := [.ref (adE E 280), .int (jI x1_13), .ref (adE E 283)]) rfl rfl (Nat.le_of_ble_eq_true rfl) dX10_takes_48 (J_pI (fun v40 g42 h => ?_))
      refine J_iconst C dX10_takes_51 ?_
      refine J_iadd C dX10_takes_52 ?_
      obtain ⟨b44, b45, h⟩ := h
      refine J_iald C (dmM hs kc280 (by decide)) (n := 12960) (clE_k E s37 kc280) (by decide) b44 b45 dX10_takes_53 (fun g46 => ?_)
      obtain ⟨b47, b48, h⟩ := h
      refine J_iast C (wrM hs kc283 (by decide)) (n := 16) (fun z => clE_k E z kc283) (by decide) b47 b48 g46 dX10_takes_54 ?_
      obtain ⟨s49, f50⟩ : ∃ z : Sg, z = sI s37 283 x1_13 (gI s37 280 (v40 + 1)) := ⟨_, rfl⟩
      replace h := h s49 f50
      refine J_sig f50 ?_
      have n51 : gN s49 = gN s := by rw [f50]; exact n39
      refine J_aload_n C dX10_takes_55 rfl 0 rfl ?_
      refine gf_X10_parts C hs wf_X10_22 dX10_takes_56 ?_
      refine J_iload_n C dX10_takes_59 rfl 1 rfl ?_
      refine J_aload_n C dX10_takes_60 rfl 0 rfl ?_
      refine gf_X10_page C hs wf_X10_7 dX10_takes_61 ?_
      refine J_aload_n C dX10_takes_64 rfl 0 rfl ?_
      refine J_iload_n C dX10_takes_65 rfl 1 rfl ?_
      refine J_V C (ct_X10_at hs g1_13 h) ck_X10_at wm_X10_81 win_X10_at wsel_X10_at (dmM hs kc279 (by decide)) (clE_k E s49 kc279) rfl ⟨rfl, rfl⟩ (by decide) (by decide) (As := [.int (jI x1_13)]) (rest := [.ref (adE E 280), .int (jI x1_13), .ref (adE E 284)]) rfl rfl (Nat.le_of_ble_eq_true rfl) dX10_takes_66 (J_pI (fun v52 g54 h => ?_))
      refine J_iconst C dX10_takes_69 ?_
      refine J_iadd C dX10_takes_70 ?_
      obtain ⟨b56, b57, h⟩ := h
      refine J_iald C (dmM hs kc280 (by decide)) (n := 12960) (clE_k E s49 kc280) (by decide) b56 b57 dX10_takes_71 (fun g58 => ?_)
      obtain ⟨b59, b60, h⟩ := h
      refine J_iast C (wrM hs kc284 (by decide)) (n := 16) (fun z => clE_k E z kc284) (by decide) b59 b60 g58 dX10_takes_72 ?_
      obtain ⟨s61, f62⟩ : ∃ z : Sg, z = sI s49 284 x1_13 (gI s49 280 (v52 + 2)) := ⟨_, rfl⟩
      replace h := h s61 f62
      refine J_sig f62 ?_
      have n63 : gN s61 = gN s := by rw [f62]; exact n51
      refine J_aload_n C dX10_takes_73 rfl 0 rfl ?_
      refine gf_X10_one C hs wf_X10_25 dX10_takes_74 ?_
      refine J_iload_n C dX10_takes_77 rfl 1 rfl ?_
      refine J_iconst C dX10_takes_78 ?_
      refine J_iload_n C dX10_takes_79 rfl 1 rfl ?_
      refine J_imul C dX10_takes_80 ?_
      obtain ⟨b64, b65, g66, h⟩ := h
      refine J_iast C (wrM hs kc285 (by decide)) (n := 16) (fun z => clE_k E z kc285) (by decide) b64 b65 g66 dX10_takes_81 ?_
      obtain ⟨s67, f68⟩ : ∃ z : Sg, z = sI s61 285 x1_13 (2 * x1_13) := ⟨_, rfl⟩
      replace h := h s67 f68
      refine J_sig f68 ?_
      have n69 : gN s67 = gN s := by rw [f68]; exact n63
      refine J_aload_n C dX10_takes_82 rfl 0 rfl ?_
      refine gf_X10_two C hs wf_X10_28 dX10_takes_83 ?_
      refine J_iload_n C dX10_takes_86 rfl 1 rfl ?_
      refine J_iconst C dX10_takes_87 ?_
      refine J_iload_n C dX10_takes_88 rfl 1 rfl ?_
      refine J_imul C dX10_takes_89 ?_
      refine J_iconst C dX10_takes_90 ?_
      refine J_iadd C dX10_takes_91 ?_
      obtain ⟨b70, b71, g72, h⟩ := h
      refine J_iast C (wrM hs kc286 (by decide)) (n := 16) (fun z => clE_k E z kc286) (by decide) b70 b71 g72 dX10_takes_92 ?_
      obtain ⟨s73, f74⟩ : ∃ z : Sg, z = sI s67 286 x1_13 ((2 * x1_13) + 1) := ⟨_, rfl⟩
      replace h := h s73 f74
      refine J_sig f74 ?_
      have n75 : gN s73 = gN s := by rw [f74]; exact n69
      refine J_iinc C dX10_takes_93 1 rfl (by decide) (lv' := [(1, .int (jI (x1_13 + 1))), (0, .ref (adE E 279))]) rfl ?_
      refine J_goto C (tgt := 13) dX10_takes_96 (by decide) ?_
      obtain ⟨g76, h⟩ := h
      exact J_sub [1, 0] rfl (h g76 n75)
  )
  exact J_sub [1, 0] rfl (h (rgN 0 (by decide)) n26)
