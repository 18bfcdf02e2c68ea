/-! contracts (printed by wip/whole/gen) -/
set_option maxHeartbeats 4000000 in
set_option maxRecDepth 100000 in
theorem ct_X10_snaps {l : Launch} {E : ET} (hs : eS E = false) {s : Sg} {Q : Sg → Prop} (h : wp_X10_snaps s Q) : MetE l E yX10_snaps cX10_snaps 4 none rm_X10_snaps s [.ref (adE E 279)] (qV Q (gN s)) := by
  refine MetJ (by decide +kernel) (Nat.le_of_ble_eq_true rfl) ?_
  intro F hl C hF
  subst hl
  show JJ F E 0 0 s 0 [(0, .ref (adE E 279))] []
  refine J_aload_n C dX10_snaps_0 rfl 0 rfl ?_
  refine gf_X10_many C hs wf_X10_84 dX10_snaps_1 (fun g21 => ?_)
  obtain ⟨x1_4, e22⟩ : ∃ v : Int, v = (gI s 279 9) := ⟨_, rfl⟩
  replace h := h x1_4 e22
  have g1_4 : rgI x1_4 := by rw [e22]; exact g21
  refine J_top e22 ?_
  refine J_istore_n C dX10_snaps_4 rfl (by decide) (lv' := [(1, .int (jI x1_4)), (0, .ref (adE E 279))]) rfl ?_
  refine J_iconst C dX10_snaps_5 ?_
  refine J_istore_n C dX10_snaps_6 rfl (by decide) (lv' := [(2, .int (jI 0)), (1, .int (jI x1_4)), (0, .ref (adE E 279))]) rfl ?_
  replace h := h (fun (x2_7 : Int) (sL7 : Sg) => rgI x2_7 → gN sL7 = gN s → JJ F E 0 0 sL7 7 [(0, .ref (adE E 279)), (1, .int (jI x1_4)), (2, .int (jI x2_7))] []) (by
    intro x2_7 sL7 h g2_7 nL7
    have j97 : ∀ (x2 : Int) (t0 : Int) (t1 : Int) (sj : Sg), wj_X10_snaps_97 (fun (x2_7 : Int) (sL7 : Sg) => rgI x2_7 → gN sL7 = gN s → JJ F E 0 0 sL7 7 [(0, .ref (adE E 279)), (1, .int (jI x1_4)), (2, .int (jI x2_7))] []) x1_4 x2 t0 t1 sj Q → rgI x2 → rgI t0 → rgI t1 → gN sj = gN s → JJ F E 0 0 sj 97 [(0, .ref (adE E 279)), (1, .int (jI x1_4)), (2, .int (jI x2))] [.int (jI t0), .int (jI t1), .ref (adE E 283)] := by
      intro x2 t0 t1 sj h g2 gt0 gt1 nj
      obtain ⟨b66, b67, h⟩ := h
      refine J_iast C (wrM hs kc283 (by decide)) (n := 16) (fun z => clE_k E z kc283) (by decide) b66 b67 gt0 dX10_snaps_97 ?_
      obtain ⟨s68, f69⟩ : ∃ z : Sg, z = sI sj 283 t1 t0 := ⟨_, rfl⟩
      replace h := h s68 f69
      refine J_sig f69 ?_
      have n70 : gN s68 = gN s := by rw [f69]; exact nj
      refine J_iinc C dX10_snaps_98 2 rfl (by decide) (lv' := [(2, .int (jI (x2 + 1))), (0, .ref (adE E 279)), (1, .int (jI x1_4))]) rfl ?_
      refine J_goto C (tgt := 7) dX10_snaps_101 (by decide) ?_
      obtain ⟨g71, h⟩ := h
      exact J_sub [1, 2, 0] rfl (h g71 n70)
    have j91 : ∀ (x2 : Int) (t0 : Int) (sj : Sg), wj_X10_snaps_91 (fun (x2_7 : Int) (sL7 : Sg) => rgI x2_7 → gN sL7 = gN s → JJ F E 0 0 sL7 7 [(0, .ref (adE E 279)), (1, .int (jI x1_4)), (2, .int (jI x2_7))] []) x1_4 x2 t0 sj Q → rgI x2 → rgI t0 → gN sj = gN s → JJ F E 0 0 sj 91 [(0, .ref (adE E 279)), (1, .int (jI x1_4)), (2, .int (jI x2))] [.int (jI t0), .ref (adE E 283)] := by
      intro x2 t0 sj h g2 gt0 nj
      refine J_aload_n C dX10_snaps_91 rfl 0 rfl ?_
      refine gf_X10_ends C hs wf_X10_19 dX10_snaps_92 ?_
      refine J_iload_n C dX10_snaps_95 rfl 2 rfl ?_
      obtain ⟨b63, b64, h⟩ := h
      refine J_iald C (dmM hs kc283 (by decide)) (n := 16) (clE_k E sj kc283) (by decide) b63 b64 dX10_snaps_96 (fun g65 => ?_)
      exact J_sub [0, 1, 2] rfl (j97 _ _ _ _ h g2 g65 gt0 nj)
    have j54 : ∀ (x2 : Int) (t0 : Int) (t1 : Int) (sj : Sg), wj_X10_snaps_54 (fun (x2_7 : Int) (sL7 : Sg) => rgI x2_7 → gN sL7 = gN s → JJ F E 0 0 sL7 7 [(0, .ref (adE E 279)), (1, .int (jI x1_4)), (2, .int (jI x2_7))] []) x1_4 x2 t0 t1 sj Q → rgI x2 → rgI t0 → rgI t1 → gN sj = gN s → JJ F E 0 0 sj 54 [(0, .ref (adE E 279)), (1, .int (jI x1_4)), (2, .int (jI x2))] [.int (jI t0), .int (jI t1), .ref (adE E 282)] := by
      intro x2 t0 t1 sj h g2 gt0 gt1 nj
      obtain ⟨b51, b52, h⟩ := h
      refine J_iast C (wrM hs kc282 (by decide)) (n := 16) (fun z => clE_k E z kc282) (by decide) b51 b52 gt0 dX10_snaps_54 ?_
      obtain ⟨s53, f54⟩ : ∃ z : Sg, z = sI sj 282 t1 t0 := ⟨_, rfl⟩
      replace h := h s53 f54
      refine J_sig f54 ?_
      have n55 : gN s53 = gN s := by rw [f54]; exact nj
      refine J_aload_n C dX10_snaps_55 rfl 0 rfl ?_
      refine J_aload_n C dX10_snaps_56 rfl 0 rfl ?_
      refine gf_X10_ends C hs wf_X10_19 dX10_snaps_57 ?_
      refine J_iload_n C dX10_snaps_60 rfl 2 rfl ?_
      obtain ⟨b56, b57, h⟩ := h
      refine J_iald C (dmM hs kc283 (by decide)) (n := 16) (clE_k E s53 kc283) (by decide) b56 b57 dX10_snaps_61 (fun g58 => ?_)
      refine J_V C (ct_X10_near hs g58 h) ck_X10_near wm_X10_117 win_X10_near wsel_X10_near (dmM hs kc279 (by decide)) (clE_k E s53 kc279) rfl ⟨rfl, rfl⟩ (by decide) (by decide) (As := [.int (jI (gI s53 283 x2))]) (rest := []) rfl rfl (Nat.le_of_ble_eq_true rfl) dX10_snaps_62 (J_pI (fun v59 g61 h => ?_))
      refine J_istore_n C dX10_snaps_65 rfl (by decide) (lv' := [(3, .int (jI v59)), (0, .ref (adE E 279)), (1, .int (jI x1_4)), (2, .int (jI x2))]) rfl ?_
      refine J_aload_n C dX10_snaps_66 rfl 1 rfl ?_
      refine gf_X10_ends C hs wf_X10_19 dX10_snaps_67 ?_
      refine J_iload_n C dX10_snaps_70 rfl 3 rfl ?_
      refine J_iload_n C dX10_snaps_71 rfl 0 rfl ?_
      refine J_bipush C dX10_snaps_72 (by decide) ?_
      refine J_icmp_eq C g61 (rgN (-9) (by decide)) (tgt := 91) dX10_snaps_74 (by decide) (fun q76 => ?_) (fun q76 => ?_)
      · replace h := h.1 q76
        exact J_sub [1, 2, 3] rfl (j91 _ _ _ h g2 g2 n55)
      · replace h := h.2 q76
        refine J_iload_n C dX10_snaps_77 rfl 0 rfl ?_
        refine J_aload_n C dX10_snaps_78 rfl 1 rfl ?_
        refine gf_X10_begins C hs wf_X10_16 dX10_snaps_79 ?_
        refine J_iload_n C dX10_snaps_82 rfl 3 rfl ?_
        obtain ⟨b72, b73, h⟩ := h
        refine J_iald C (dmM hs kc282 (by decide)) (n := 16) (clE_k E s53 kc282) (by decide) b72 b73 dX10_snaps_83 (fun g74 => ?_)
        refine J_icmp_le C g61 g74 (tgt := 91) dX10_snaps_84 (by decide) (fun q75 => ?_) (fun q75 => ?_)
        · replace h := h.1 q75
          exact J_sub [1, 2, 3] rfl (j91 _ _ _ h g2 g2 n55)
        · replace h := h.2 q75
          refine J_iload_n C dX10_snaps_87 rfl 0 rfl ?_
          refine J_goto C (tgt := 97) dX10_snaps_88 (by decide) ?_
          exact J_sub [1, 2, 3] rfl (j97 _ _ _ _ h g2 g61 g2 n55)
    have j48 : ∀ (x2 : Int) (t0 : Int) (sj : Sg), wj_X10_snaps_48 (fun (x2_7 : Int) (sL7 : Sg) => rgI x2_7 → gN sL7 = gN s → JJ F E 0 0 sL7 7 [(0, .ref (adE E 279)), (1, .int (jI x1_4)), (2, .int (jI x2_7))] []) x1_4 x2 t0 sj Q → rgI x2 → rgI t0 → gN sj = gN s → JJ F E 0 0 sj 48 [(0, .ref (adE E 279)), (1, .int (jI x1_4)), (2, .int (jI x2))] [.int (jI t0), .ref (adE E 282)] := by
      intro x2 t0 sj h g2 gt0 nj
      refine J_aload_n C dX10_snaps_48 rfl 0 rfl ?_
      refine gf_X10_begins C hs wf_X10_16 dX10_snaps_49 ?_
      refine J_iload_n C dX10_snaps_52 rfl 2 rfl ?_
      obtain ⟨b48, b49, h⟩ := h
      refine J_iald C (dmM hs kc282 (by decide)) (n := 16) (clE_k E sj kc282) (by decide) b48 b49 dX10_snaps_53 (fun g50 => ?_)
      exact J_sub [0, 1, 2] rfl (j54 _ _ _ _ h g2 g50 gt0 nj)
    refine J_iload_n C dX10_snaps_7 rfl 2 rfl ?_
    refine J_iload_n C dX10_snaps_8 rfl 1 rfl ?_
    refine J_icmp_ge C g2_7 g1_4 (tgt := 104) dX10_snaps_9 (by decide) (fun q82 => ?_) (fun q82 => ?_)
    · replace h := h.1 q82
      refine J_aload_n C dX10_snaps_104 rfl 0 rfl ?_
      refine J_V C (ct_X10_empties hs h) ck_X10_empties wm_X10_139 win_X10_empties wsel_X10_empties (dmM hs kc279 (by decide)) (clE_k E sL7 kc279) rfl ⟨rfl, rfl⟩ (by decide) (by decide) (As := []) (rest := []) rfl rfl (Nat.le_of_ble_eq_true rfl) dX10_snaps_105 (J_kV (fun s24 h n26 => ?_))
      have n27 : gN s24 = gN s := n26.trans (nL7)
      refine J_iconst C dX10_snaps_108 ?_
      refine J_istore_n C dX10_snaps_109 rfl (by decide) (lv' := [(2, .int (jI 0)), (0, .ref (adE E 279)), (1, .int (jI x1_4))]) rfl ?_
      replace h := h (fun (x2_110 : Int) (sL110 : Sg) => rgI x2_110 → gN sL110 = gN s → JJ F E 0 0 sL110 110 [(0, .ref (adE E 279)), (1, .int (jI x1_4)), (2, .int (jI x2_110))] []) (by
        intro x2_110 sL110 h g2_110 nL110
        refine J_iload_n C dX10_snaps_110 rfl 2 rfl ?_
        refine J_iload_n C dX10_snaps_111 rfl 1 rfl ?_
        refine J_icmp_ge C g2_110 g1_4 (tgt := 138) dX10_snaps_112 (by decide) (fun q40 => ?_) (fun q40 => ?_)
        · replace h := h.1 q40
          exact J_vret C (Nat.zero_le _) (Nat.zero_le _) dX10_snaps_138 (by rw [hF]; exact ⟨rfl, h, nL110⟩)
        · replace h := h.2 q40
          refine J_aload_n C dX10_snaps_115 rfl 0 rfl ?_
          refine J_aload_n C dX10_snaps_116 rfl 0 rfl ?_
          refine gf_X10_oldBegins C hs wf_X10_31 dX10_snaps_117 ?_
          refine J_iload_n C dX10_snaps_120 rfl 2 rfl ?_
          obtain ⟨b28, b29, h⟩ := h
          refine J_iald C (dmM hs kc287 (by decide)) (n := 16) (clE_k E sL110 kc287) (by decide) b28 b29 dX10_snaps_121 (fun g30 => ?_)
          refine J_aload_n C dX10_snaps_122 rfl 0 rfl ?_
          refine gf_X10_oldEnds C hs wf_X10_34 dX10_snaps_123 ?_
          refine J_iload_n C dX10_snaps_126 rfl 2 rfl ?_
          obtain ⟨b31, b32, h⟩ := h
          refine J_iald C (dmM hs kc288 (by decide)) (n := 16) (clE_k E sL110 kc288) (by decide) b31 b32 dX10_snaps_127 (fun g33 => ?_)
          refine J_iload_n C dX10_snaps_128 rfl 2 rfl ?_
          refine J_V C (ct_X10_inserts hs g30 g33 g2_110 h) ck_X10_inserts wm_X10_135 win_X10_inserts wsel_X10_inserts (dmM hs kc279 (by decide)) (clE_k E sL110 kc279) rfl ⟨rfl, rfl⟩ (by decide) (by decide) (As := [.int (jI (gI sL110 287 x2_110)), .int (jI (gI sL110 288 x2_110)), .int (jI x2_110)]) (rest := []) rfl rfl (Nat.le_of_ble_eq_true rfl) dX10_snaps_129 (J_kV (fun s35 h n37 => ?_))
          have n38 : gN s35 = gN s := n37.trans (nL110)
          refine J_iinc C dX10_snaps_132 2 rfl (by decide) (lv' := [(2, .int (jI (x2_110 + 1))), (0, .ref (adE E 279)), (1, .int (jI x1_4))]) rfl ?_
          refine J_goto C (tgt := 110) dX10_snaps_135 (by decide) ?_
          obtain ⟨g39, h⟩ := h
          exact J_sub [1, 2, 0] rfl (h g39 n38)
      )
      exact J_sub [1, 2, 0] rfl (h (rgN 0 (by decide)) n27)
    · replace h := h.2 q82
      refine J_aload_n C dX10_snaps_12 rfl 0 rfl ?_
      refine J_aload_n C dX10_snaps_13 rfl 0 rfl ?_
      refine gf_X10_begins C hs wf_X10_16 dX10_snaps_14 ?_
      refine J_iload_n C dX10_snaps_17 rfl 2 rfl ?_
      obtain ⟨b41, b42, h⟩ := h
      refine J_iald C (dmM hs kc282 (by decide)) (n := 16) (clE_k E sL7 kc282) (by decide) b41 b42 dX10_snaps_18 (fun g43 => ?_)
      refine J_V C (ct_X10_near hs g43 h) ck_X10_near wm_X10_117 win_X10_near wsel_X10_near (dmM hs kc279 (by decide)) (clE_k E sL7 kc279) rfl ⟨rfl, rfl⟩ (by decide) (by decide) (As := [.int (jI (gI sL7 282 x2_7))]) (rest := []) rfl rfl (Nat.le_of_ble_eq_true rfl) dX10_snaps_19 (J_pI (fun v44 g46 h => ?_))
      refine J_istore_n C dX10_snaps_22 rfl (by decide) (lv' := [(3, .int (jI v44)), (0, .ref (adE E 279)), (1, .int (jI x1_4)), (2, .int (jI x2_7))]) rfl ?_
      refine J_aload_n C dX10_snaps_23 rfl 1 rfl ?_
      refine gf_X10_begins C hs wf_X10_16 dX10_snaps_24 ?_
      refine J_iload_n C dX10_snaps_27 rfl 3 rfl ?_
      refine J_iload_n C dX10_snaps_28 rfl 0 rfl ?_
      refine J_bipush C dX10_snaps_29 (by decide) ?_
      refine J_icmp_eq C g46 (rgN (-9) (by decide)) (tgt := 48) dX10_snaps_31 (by decide) (fun q81 => ?_) (fun q81 => ?_)
      · replace h := h.1 q81
        exact J_sub [1, 2, 3] rfl (j48 _ _ _ h g2_7 g2_7 nL7)
      · replace h := h.2 q81
        refine J_iload_n C dX10_snaps_34 rfl 0 rfl ?_
        refine J_aload_n C dX10_snaps_35 rfl 1 rfl ?_
        refine gf_X10_ends C hs wf_X10_19 dX10_snaps_36 ?_
        refine J_iload_n C dX10_snaps_39 rfl 3 rfl ?_
        obtain ⟨b77, b78, h⟩ := h
        refine J_iald C (dmM hs kc283 (by decide)) (n := 16) (clE_k E sL7 kc283) (by decide) b77 b78 dX10_snaps_40 (fun g79 => ?_)
        refine J_icmp_ge C g46 g79 (tgt := 48) dX10_snaps_41 (by decide) (fun q80 => ?_) (fun q80 => ?_)
        · replace h := h.1 q80
          exact J_sub [1, 2, 3] rfl (j48 _ _ _ h g2_7 g2_7 nL7)
        · replace h := h.2 q80
          refine J_iload_n C dX10_snaps_44 rfl 0 rfl ?_
          refine J_goto C (tgt := 54) dX10_snaps_45 (by decide) ?_
          exact J_sub [1, 2, 3] rfl (j54 _ _ _ _ h g2_7 g46 g2_7 nL7)
  )
  exact J_sub [2, 1, 0] rfl (h (rgN 0 (by decide)) rfl)
set_option maxHeartbeats 4000000 in
set_option maxRecDepth 100000 in
theorem ct_X10_separates {l : Launch} {E : ET} (hs : eS E = false) {s : Sg} {Q : Sg → Prop} (h : wp_X10_separates s Q) : MetE l E yX10_separates cX10_separates 4 none rm_X10_separates s [.ref (adE E 279)] (qV Q (gN s)) := by
  refine MetJ (by decide +kernel) (Nat.le_of_ble_eq_true rfl) ?_
  intro F hl C hF
  subst hl
  show JJ F E 0 0 s 0 [(0, .ref (adE E 279))] []
  refine J_iconst C dX10_separates_0 ?_
  refine J_istore_n C dX10_separates_1 rfl (by decide) (lv' := [(1, .int (jI 0)), (0, .ref (adE E 279))]) rfl ?_
  replace h := h (fun (x1_2 : Int) (sL2 : Sg) => rgI x1_2 → gN sL2 = gN s → JJ F E 0 0 sL2 2 [(0, .ref (adE E 279)), (1, .int (jI x1_2))] []) (by
    intro x1_2 sL2 h g1_2 nL2
    have j82 : ∀ (x1 : Int) (sj : Sg), wj_X10_separates_82 (fun (x1_2 : Int) (sL2 : Sg) => rgI x1_2 → gN sL2 = gN s → JJ F E 0 0 sL2 2 [(0, .ref (adE E 279)), (1, .int (jI x1_2))] [])  x1 sj Q → rgI x1 → gN sj = gN s → JJ F E 0 0 sj 82 [(0, .ref (adE E 279)), (1, .int (jI x1))] [] := by
      intro x1 sj h g1 nj
      refine J_iinc C dX10_separates_82 1 rfl (by decide) (lv' := [(1, .int (jI (x1 + 1))), (0, .ref (adE E 279))]) rfl ?_
      refine J_goto C (tgt := 2) dX10_separates_85 (by decide) ?_
      obtain ⟨g36, h⟩ := h
      exact J_sub [1, 0] rfl (h g36 nj)
    have j81 : ∀ (x1 : Int) (t0 : Int) (t1 : Int) (sj : Sg), wj_X10_separates_81 (fun (x1_2 : Int) (sL2 : Sg) => rgI x1_2 → gN sL2 = gN s → JJ F E 0 0 sL2 2 [(0, .ref (adE E 279)), (1, .int (jI x1_2))] [])  x1 t0 t1 sj Q → rgI x1 → rgI t0 → rgI t1 → gN sj = gN s → JJ F E 0 0 sj 81 [(0, .ref (adE E 279)), (1, .int (jI x1))] [.int (jI t0), .int (jI t1), .ref (adE E 283)] := by
      intro x1 t0 t1 sj h g1 gt0 gt1 nj
      obtain ⟨b43, b44, h⟩ := h
      refine J_iast C (wrM hs kc283 (by decide)) (n := 16) (fun z => clE_k E z kc283) (by decide) b43 b44 gt0 dX10_separates_81 ?_
      obtain ⟨s45, f46⟩ : ∃ z : Sg, z = sI sj 283 t1 t0 := ⟨_, rfl⟩
      replace h := h s45 f46
      refine J_sig f46 ?_
      have n47 : gN s45 = gN s := by rw [f46]; exact nj
      exact J_sub [0, 1] rfl (j82 _ _ h g1 n47)
    have j43 : ∀ (x1 : Int) (t0 : Int) (sj : Sg), wj_X10_separates_43 (fun (x1_2 : Int) (sL2 : Sg) => rgI x1_2 → gN sL2 = gN s → JJ F E 0 0 sL2 2 [(0, .ref (adE E 279)), (1, .int (jI x1_2))] [])  x1 t0 sj Q → rgI x1 → rgI t0 → gN sj = gN s → JJ F E 0 0 sj 43 [(0, .ref (adE E 279)), (1, .int (jI x1))] [.int (jI t0)] := by
      intro x1 t0 sj h g1 gt0 nj
      refine J_istore_n C dX10_separates_43 rfl (by decide) (lv' := [(3, .int (jI t0)), (0, .ref (adE E 279)), (1, .int (jI x1))]) rfl ?_
      refine J_iload_n C dX10_separates_44 rfl 0 rfl ?_
      refine J_aload_n C dX10_separates_45 rfl 1 rfl ?_
      refine gf_X10_ends C hs wf_X10_19 dX10_separates_46 ?_
      refine J_iload_n C dX10_separates_49 rfl 2 rfl ?_
      obtain ⟨b33, b34, h⟩ := h
      refine J_iald C (dmM hs kc283 (by decide)) (n := 16) (clE_k E sj kc283) (by decide) b33 b34 dX10_separates_50 (fun g35 => ?_)
      refine J_icmp_ge C gt0 g35 (tgt := 82) dX10_separates_51 (by decide) (fun q50 => ?_) (fun q50 => ?_)
      · replace h := h.1 q50
        exact J_sub [1, 2] rfl (j82 _ _ h g1 nj)
      · replace h := h.2 q50
        refine J_aload_n C dX10_separates_54 rfl 1 rfl ?_
        refine gf_X10_ends C hs wf_X10_19 dX10_separates_55 ?_
        refine J_iload_n C dX10_separates_58 rfl 2 rfl ?_
        refine J_iload_n C dX10_separates_59 rfl 0 rfl ?_
        refine J_aload_n C dX10_separates_60 rfl 1 rfl ?_
        refine gf_X10_begins C hs wf_X10_16 dX10_separates_61 ?_
        refine J_iload_n C dX10_separates_64 rfl 2 rfl ?_
        obtain ⟨b37, b38, h⟩ := h
        refine J_iald C (dmM hs kc282 (by decide)) (n := 16) (clE_k E sj kc282) (by decide) b37 b38 dX10_separates_65 (fun g39 => ?_)
        refine J_icmp_le C gt0 g39 (tgt := 73) dX10_separates_66 (by decide) (fun q49 => ?_) (fun q49 => ?_)
        · replace h := h.1 q49
          refine J_aload_n C dX10_separates_73 rfl 1 rfl ?_
          refine gf_X10_begins C hs wf_X10_16 dX10_separates_74 ?_
          refine J_iload_n C dX10_separates_77 rfl 2 rfl ?_
          obtain ⟨b40, b41, h⟩ := h
          refine J_iald C (dmM hs kc282 (by decide)) (n := 16) (clE_k E sj kc282) (by decide) b40 b41 dX10_separates_78 (fun g42 => ?_)
          refine J_iconst C dX10_separates_79 ?_
          refine J_iadd C dX10_separates_80 ?_
          obtain ⟨g48, h⟩ := h
          exact J_sub [1, 2] rfl (j81 _ _ _ _ h g1 g48 g1 nj)
        · replace h := h.2 q49
          refine J_iload_n C dX10_separates_69 rfl 0 rfl ?_
          refine J_goto C (tgt := 81) dX10_separates_70 (by decide) ?_
          exact J_sub [1, 2] rfl (j81 _ _ _ _ h g1 gt0 g1 nj)
    refine J_iload_n C dX10_separates_2 rfl 1 rfl ?_
    refine J_aload_n C dX10_separates_3 rfl 0 rfl ?_
    refine gf_X10_many C hs wf_X10_84 dX10_separates_4 (fun g21 => ?_)
    refine J_icmp_ge C g1_2 g21 (tgt := 88) dX10_separates_7 (by decide) (fun q56 => ?_) (fun q56 => ?_)
    · replace h := h.1 q56
      exact J_vret C (Nat.zero_le _) (Nat.zero_le _) dX10_separates_88 (by rw [hF]; exact ⟨rfl, h, nL2⟩)
    · replace h := h.2 q56
      refine J_aload_n C dX10_separates_10 rfl 0 rfl ?_
      refine J_iload_n C dX10_separates_11 rfl 1 rfl ?_
      refine J_V C (ct_X10_nextOf hs g1_2 h) ck_X10_nextOf wm_X10_120 win_X10_nextOf wsel_X10_nextOf (dmM hs kc279 (by decide)) (clE_k E sL2 kc279) rfl ⟨rfl, rfl⟩ (by decide) (by decide) (As := [.int (jI x1_2)]) (rest := []) rfl rfl (Nat.le_of_ble_eq_true rfl) dX10_separates_12 (J_pI (fun v22 g24 h => ?_))
      refine J_istore_n C dX10_separates_15 rfl (by decide) (lv' := [(2, .int (jI v22)), (0, .ref (adE E 279)), (1, .int (jI x1_2))]) rfl ?_
      refine J_iload_n C dX10_separates_16 rfl 0 rfl ?_
      refine J_bipush C dX10_separates_17 (by decide) ?_
      refine J_icmp_ne C g24 (rgN (-9) (by decide)) (tgt := 31) dX10_separates_19 (by decide) (fun q55 => ?_) (fun q55 => ?_)
      · replace h := h.2 q55
        refine J_aload_n C dX10_separates_31 rfl 1 rfl ?_
        refine gf_X10_begins C hs wf_X10_16 dX10_separates_32 ?_
        refine J_iload_n C dX10_separates_35 rfl 0 rfl ?_
        obtain ⟨b26, b27, h⟩ := h
        refine J_iald C (dmM hs kc282 (by decide)) (n := 16) (clE_k E sL2 kc282) (by decide) b26 b27 dX10_separates_36 (fun g28 => ?_)
        refine J_aload_n C dX10_separates_37 rfl 1 rfl ?_
        refine J_iconst C dX10_separates_38 ?_
        refine J_V C (ct_X10_setting hs (rgN 2 (by decide)) h) ck_X10_setting wm_X10_105 win_X10_setting wsel_X10_setting (dmM hs kc279 (by decide)) (clE_k E sL2 kc279) rfl ⟨rfl, rfl⟩ (by decide) (by decide) (As := [.int (jI 2)]) (rest := [.int (jI (gI sL2 282 v22))]) rfl rfl (Nat.le_of_ble_eq_true rfl) dX10_separates_39 (J_pI (fun v29 g31 h => ?_))
        refine J_isub C dX10_separates_42 ?_
        obtain ⟨g51, h⟩ := h
        exact J_sub [1, 2] rfl (j43 _ _ _ h g1_2 g51 nL2)
      · replace h := h.1 q55
        refine J_aload_n C dX10_separates_22 rfl 1 rfl ?_
        refine gf_X10_ends C hs wf_X10_19 dX10_separates_23 ?_
        refine J_iload_n C dX10_separates_26 rfl 2 rfl ?_
        obtain ⟨b52, b53, h⟩ := h
        refine J_iald C (dmM hs kc283 (by decide)) (n := 16) (clE_k E sL2 kc283) (by decide) b52 b53 dX10_separates_27 (fun g54 => ?_)
        refine J_goto C (tgt := 43) dX10_separates_28 (by decide) ?_
        exact J_sub [1, 2] rfl (j43 _ _ _ h g1_2 g54 nL2)
  )
  exact J_sub [1, 0] rfl (h (rgN 0 (by decide)) rfl)
set_option maxHeartbeats 4000000 in
set_option maxRecDepth 100000 in
theorem ct_X10_conforms {l : Launch} {E : ET} (hs : eS E = false) {s : Sg} {x1 : Int} (g1 : rgI x1) {Q : Int → Sg → Prop} (h : wp_X10_conforms x1 s Q) : MetE l E yX10_conforms cX10_conforms 2 (some .boolean) rm_X10_conforms s [.ref (adE E 279), .int (jI x1)] (qZ Q (gN s)) := by
  refine MetJ (by decide +kernel) (Nat.le_of_ble_eq_true rfl) ?_
  intro F hl C hF
  subst hl
  show JJ F E 0 0 s 0 [(0, .ref (adE E 279)), (1, .int (jI x1))] []
  have j55 : ∀ (x1 : Int) (sj : Sg), wj_X10_conforms_55   x1 sj Q → rgI x1 → gN sj = gN s → JJ F E 0 0 sj 55 [(0, .ref (adE E 279)), (1, .int (jI x1))] [] := by
    intro x1 sj h g1 nj
    refine J_iload_n C dX10_conforms_55 rfl 1 rfl ?_
    refine J_bipush C dX10_conforms_56 (by decide) ?_
    refine J_iand C dX10_conforms_58 ?_
    refine J_if_le C (rg_and _ _) (tgt := 66) dX10_conforms_59 (by decide) (fun q34 => ?_) (fun q34 => ?_)
    · replace h := h.1 q34
      refine J_iconst C dX10_conforms_66 ?_
      exact J_zret C (Nat.zero_le _) (Nat.zero_le _) (nar_z (Or.inr rfl)) dX10_conforms_67 (by rw [hF]; exact ⟨_, rfl, (Or.inr rfl), h, nj⟩)
    · replace h := h.2 q34
      refine J_aload_n C dX10_conforms_62 rfl 0 rfl ?_
      refine J_V C (ct_X10_separates hs h) ck_X10_separates wm_X10_171 win_X10_separates wsel_X10_separates (dmM hs kc279 (by decide)) (clE_k E sj kc279) rfl ⟨rfl, rfl⟩ (by decide) (by decide) (As := []) (rest := []) rfl rfl (Nat.le_of_ble_eq_true rfl) dX10_conforms_63 (J_kV (fun s30 h n32 => ?_))
      have n33 : gN s30 = gN s := n32.trans (nj)
      refine J_iconst C dX10_conforms_66 ?_
      exact J_zret C (Nat.zero_le _) (Nat.zero_le _) (nar_z (Or.inr rfl)) dX10_conforms_67 (by rw [hF]; exact ⟨_, rfl, (Or.inr rfl), h, n33⟩)
  have j44 : ∀ (x1 : Int) (sj : Sg), wj_X10_conforms_44   x1 sj Q → rgI x1 → gN sj = gN s → JJ F E 0 0 sj 44 [(0, .ref (adE E 279)), (1, .int (jI x1))] [] := by
    intro x1 sj h g1 nj
    refine J_iload_n C dX10_conforms_44 rfl 1 rfl ?_
    refine J_bipush C dX10_conforms_45 (by decide) ?_
    refine J_iand C dX10_conforms_47 ?_
    refine J_if_le C (rg_and _ _) (tgt := 55) dX10_conforms_48 (by decide) (fun q40 => ?_) (fun q40 => ?_)
    · replace h := h.1 q40
      exact J_sub [0, 1] rfl (j55 _ _ h g1 nj)
    · replace h := h.2 q40
      refine J_aload_n C dX10_conforms_51 rfl 0 rfl ?_
      refine J_V C (ct_X10_snaps hs h) ck_X10_snaps wm_X10_168 win_X10_snaps wsel_X10_snaps (dmM hs kc279 (by decide)) (clE_k E sj kc279) rfl ⟨rfl, rfl⟩ (by decide) (by decide) (As := []) (rest := []) rfl rfl (Nat.le_of_ble_eq_true rfl) dX10_conforms_52 (J_kV (fun s36 h n38 => ?_))
      have n39 : gN s36 = gN s := n38.trans (nj)
      exact J_sub [0, 1] rfl (j55 _ _ h g1 n39)
  have j34 : ∀ (x1 : Int) (sj : Sg), wj_X10_conforms_34   x1 sj Q → rgI x1 → gN sj = gN s → JJ F E 0 0 sj 34 [(0, .ref (adE E 279)), (1, .int (jI x1))] [] := by
    intro x1 sj h g1 nj
    refine J_iload_n C dX10_conforms_34 rfl 1 rfl ?_
    refine J_iconst C dX10_conforms_35 ?_
    refine J_iand C dX10_conforms_36 ?_
    refine J_if_le C (rg_and _ _) (tgt := 44) dX10_conforms_37 (by decide) (fun q46 => ?_) (fun q46 => ?_)
    · replace h := h.1 q46
      exact J_sub [0, 1] rfl (j44 _ _ h g1 nj)
    · replace h := h.2 q46
      refine J_aload_n C dX10_conforms_40 rfl 0 rfl ?_
      refine J_V C (ct_X10_reads hs h) ck_X10_reads wm_X10_165 win_X10_reads wsel_X10_reads (dmM hs kc279 (by decide)) (clE_k E sj kc279) rfl ⟨rfl, rfl⟩ (by decide) (by decide) (As := []) (rest := []) rfl rfl (Nat.le_of_ble_eq_true rfl) dX10_conforms_41 (J_kV (fun s42 h n44 => ?_))
      have n45 : gN s42 = gN s := n44.trans (nj)
      exact J_sub [0, 1] rfl (j44 _ _ h g1 n45)
  have j24 : ∀ (x1 : Int) (sj : Sg), wj_X10_conforms_24   x1 sj Q → rgI x1 → gN sj = gN s → JJ F E 0 0 sj 24 [(0, .ref (adE E 279)), (1, .int (jI x1))] [] := by
    intro x1 sj h g1 nj
    refine J_iload_n C dX10_conforms_24 rfl 1 rfl ?_
    refine J_iconst C dX10_conforms_25 ?_
    refine J_iand C dX10_conforms_26 ?_
    refine J_if_le C (rg_and _ _) (tgt := 34) dX10_conforms_27 (by decide) (fun q52 => ?_) (fun q52 => ?_)
    · replace h := h.1 q52
      exact J_sub [0, 1] rfl (j34 _ _ h g1 nj)
    · replace h := h.2 q52
      refine J_aload_n C dX10_conforms_30 rfl 0 rfl ?_
      refine J_V C (ct_X10_merges hs h) ck_X10_merges wm_X10_162 win_X10_merges wsel_X10_merges (dmM hs kc279 (by decide)) (clE_k E sj kc279) rfl ⟨rfl, rfl⟩ (by decide) (by decide) (As := []) (rest := []) rfl rfl (Nat.le_of_ble_eq_true rfl) dX10_conforms_31 (J_kV (fun s48 h n50 => ?_))
      have n51 : gN s48 = gN s := n50.trans (nj)
      exact J_sub [0, 1] rfl (j34 _ _ h g1 n51)
  refine J_aload_n C dX10_conforms_0 rfl 0 rfl ?_
  refine J_iconst C dX10_conforms_1 ?_
  refine pf_X10_lost C hs wf_X10_142 (rgN 0 (by decide)) dX10_conforms_2 ?_
  obtain ⟨s21, f22⟩ : ∃ z : Sg, z = sI s 279 17 0 := ⟨_, rfl⟩
  replace h := h s21 f22
  refine J_sig f22 ?_
  have n23 : gN s21 = gN s := by rw [f22]; exact rfl
  refine J_aload_n C dX10_conforms_5 rfl 0 rfl ?_
  refine J_V C (ct_X10_takes hs h) ck_X10_takes wm_X10_155 win_X10_takes wsel_X10_takes (dmM hs kc279 (by decide)) (clE_k E s21 kc279) rfl ⟨rfl, rfl⟩ (by decide) (by decide) (As := []) (rest := []) rfl rfl (Nat.le_of_ble_eq_true rfl) dX10_conforms_6 (J_kV (fun s25 h n27 => ?_))
  have n28 : gN s25 = gN s := n27.trans (n23)
  refine J_iload_n C dX10_conforms_9 rfl 1 rfl ?_
  refine J_iconst C dX10_conforms_10 ?_
  refine J_iand C dX10_conforms_11 ?_
  refine J_if_le C (rg_and _ _) (tgt := 24) dX10_conforms_12 (by decide) (fun q59 => ?_) (fun q59 => ?_)
  · replace h := h.1 q59
    exact J_sub [0, 1] rfl (j24 _ _ h g1 n28)
  · replace h := h.2 q59
    refine J_aload_n C dX10_conforms_15 rfl 0 rfl ?_
    refine J_V C (ct_X10_maps hs h) ck_X10_maps wm_X10_158 win_X10_maps wsel_X10_maps (dmM hs kc279 (by decide)) (clE_k E s25 kc279) rfl ⟨rfl, rfl⟩ (by decide) (by decide) (As := []) (rest := []) rfl rfl (Nat.le_of_ble_eq_true rfl) dX10_conforms_16 (J_kZ (fun v53 s54 g55 h n56 => ?_))
    have n57 : gN s54 = gN s := n56.trans (n28)
    refine J_if_ne C (rg_z g55) (tgt := 24) dX10_conforms_19 (by decide) (fun q58 => ?_) (fun q58 => ?_)
    · replace h := h.2 q58
      exact J_sub [0, 1] rfl (j24 _ _ h g1 n57)
    · replace h := h.1 q58
      refine J_iconst C dX10_conforms_22 ?_
      exact J_zret C (Nat.zero_le _) (Nat.zero_le _) (nar_z (Or.inl rfl)) dX10_conforms_23 (by rw [hF]; exact ⟨_, rfl, (Or.inl rfl), h, n57⟩)
set_option maxHeartbeats 4000000 in
set_option maxRecDepth 100000 in
theorem ct_X10_type {l : Launch} {E : ET} (hs : eS E = false) {s : Sg} {x1 : Int} (g1 : rgI x1) {Q : Int → Sg → Prop} (h : wp_X10_type x1 s Q) : MetE l E yX10_type cX10_type 2 (some .int) rm_X10_type s [.ref (adE E 279), .int (jI x1)] (qI Q (gN s)) := by
  refine MetJ (by decide +kernel) (Nat.le_of_ble_eq_true rfl) ?_
  intro F hl C hF
  subst hl
  show JJ F E 0 0 s 0 [(0, .ref (adE E 279)), (1, .int (jI x1))] []
  refine J_iload_n C dX10_type_0 rfl 1 rfl ?_
  refine J_bipush C dX10_type_1 (by decide) ?_
  refine J_bipush C dX10_type_3 (by decide) ?_
  refine J_S C (ct_X10_in hs g1 (rgN 32 (by decide)) (rgN 126 (by decide)) h) ck_X10_in wm_X10_60 wst_X10_in ⟨rfl, rfl⟩ (by decide) (by decide) (As := [.int (jI x1), .int (jI 32), .int (jI 126)]) (rest := []) rfl rfl (Nat.le_of_ble_eq_true rfl) dX10_type_5 (J_pZ (fun v21 g23 h => ?_))
  refine J_if_ne C (rg_z g23) (tgt := 13) dX10_type_8 (by decide) (fun q39 => ?_) (fun q39 => ?_)
  · replace h := h.2 q39
    refine J_aload_n C dX10_type_13 rfl 0 rfl ?_
    refine gf_X10_typed C hs wf_X10_174 dX10_type_14 (fun g25 => ?_)
    refine J_bipush C dX10_type_17 (by decide) ?_
    refine J_icmp_ne C g25 (rgN 40 (by decide)) (tgt := 25) dX10_type_19 (by decide) (fun q38 => ?_) (fun q38 => ?_)
    · replace h := h.2 q38
      refine J_aload_n C dX10_type_25 rfl 0 rfl ?_
      refine gf_X10_text C hs wf_X10_13 dX10_type_26 ?_
      refine J_aload_n C dX10_type_29 rfl 0 rfl ?_
      refine gf_X10_typed C hs wf_X10_174 dX10_type_30 (fun g26 => ?_)
      refine J_iload_n C dX10_type_33 rfl 1 rfl ?_
      obtain ⟨b27, b28, h⟩ := h
      refine J_iast C (wrM hs kc281 (by decide)) (n := 40) (fun z => clE_k E z kc281) (by decide) b27 b28 g1 dX10_type_34 ?_
      obtain ⟨s29, f30⟩ : ∃ z : Sg, z = sI s 281 (gI s 279 3) x1 := ⟨_, rfl⟩
      replace h := h s29 f30
      refine J_sig f30 ?_
      have n31 : gN s29 = gN s := by rw [f30]; exact rfl
      refine J_aload_n C dX10_type_35 rfl 0 rfl ?_
      refine J_dup C dX10_type_36 rfl ?_
      refine gf_X10_typed C hs wf_X10_174 dX10_type_37 (fun g32 => ?_)
      refine J_iconst C dX10_type_40 ?_
      refine J_iadd C dX10_type_41 ?_
      obtain ⟨g35, h⟩ := h
      refine pf_X10_typed C hs wf_X10_174 g35 dX10_type_42 ?_
      obtain ⟨s33, f34⟩ : ∃ z : Sg, z = sI s29 279 3 ((gI s29 279 3) + 1) := ⟨_, rfl⟩
      replace h := h s33 f34
      refine J_sig f34 ?_
      have n36 : gN s33 = gN s := by rw [f34]; exact n31
      refine J_aload_n C dX10_type_45 rfl 0 rfl ?_
      refine gf_X10_typed C hs wf_X10_174 dX10_type_46 (fun g37 => ?_)
      exact J_iret C (Nat.zero_le _) (Nat.zero_le _) dX10_type_49 (by rw [hF]; exact ⟨_, rfl, g37, h, n36⟩)
    · replace h := h.1 q38
      refine J_bipush C dX10_type_22 (by decide) ?_
      exact J_iret C (Nat.zero_le _) (Nat.zero_le _) dX10_type_24 (by rw [hF]; exact ⟨_, rfl, (rgN (-3) (by decide)), h, rfl⟩)
  · replace h := h.1 q39
    refine J_iconst C dX10_type_11 ?_
    exact J_iret C (Nat.zero_le _) (Nat.zero_le _) dX10_type_12 (by rw [hF]; exact ⟨_, rfl, (rgN (-1) (by decide)), h, rfl⟩)
set_option maxHeartbeats 4000000 in
set_option maxRecDepth 100000 in
theorem ct_X10_clear {l : Launch} {E : ET} (hs : eS E = false) {s : Sg} {Q : Int → Sg → Prop} (h : wp_X10_clear s Q) : MetE l E yX10_clear cX10_clear 2 (some .int) rm_X10_clear s [.ref (adE E 279)] (qI Q (gN s)) := by
  refine MetJ (by decide +kernel) (Nat.le_of_ble_eq_true rfl) ?_
  intro F hl C hF
  subst hl
  show JJ F E 0 0 s 0 [(0, .ref (adE E 279))] []
  refine J_aload_n C dX10_clear_0 rfl 0 rfl ?_
  refine gf_X10_typed C hs wf_X10_174 dX10_clear_1 (fun g21 => ?_)
  obtain ⟨x1_4, e22⟩ : ∃ v : Int, v = (gI s 279 3) := ⟨_, rfl⟩
  replace h := h x1_4 e22
  have g1_4 : rgI x1_4 := by rw [e22]; exact g21
  refine J_top e22 ?_
  refine J_istore_n C dX10_clear_4 rfl (by decide) (lv' := [(1, .int (jI x1_4)), (0, .ref (adE E 279))]) rfl ?_
  refine J_aload_n C dX10_clear_5 rfl 1 rfl ?_
  refine J_iconst C dX10_clear_6 ?_
  refine pf_X10_typed C hs wf_X10_174 (rgN 0 (by decide)) dX10_clear_7 ?_
  obtain ⟨s23, f24⟩ : ∃ z : Sg, z = sI s 279 3 0 := ⟨_, rfl⟩
  replace h := h s23 f24
  refine J_sig f24 ?_
  have n25 : gN s23 = gN s := by rw [f24]; exact rfl
  refine J_iload_n C dX10_clear_10 rfl 0 rfl ?_
  exact J_iret C (Nat.zero_le _) (Nat.zero_le _) dX10_clear_11 (by rw [hF]; exact ⟨_, rfl, g1_4, h, n25⟩)
set_option maxHeartbeats 4000000 in
set_option maxRecDepth 100000 in
theorem ct_X10_wrongBlank {l : Launch} {E : ET} (hs : eS E = false) {s : Sg} {Q : Int → Prop} (h : wp_X10_wrongBlank s Q) : MetE l E yX10_wrongBlank cX10_wrongBlank 2 (some .int) rm_X10_wrongBlank s [.ref (adE E 279)] (qI (fun r t => Q r ∧ t = s) (gN s)) := by
  refine MetJ (by decide +kernel) (Nat.le_of_ble_eq_true rfl) ?_
  intro F hl C hF
  subst hl
  show JJ F E 0 0 s 0 [(0, .ref (adE E 279))] []
  refine J_iconst C dX10_wrongBlank_0 ?_
  refine J_istore_n C dX10_wrongBlank_1 rfl (by decide) (lv' := [(1, .int (jI 0)), (0, .ref (adE E 279))]) rfl ?_
  replace h := h (fun (x1_2 : Int) => rgI x1_2 → JJ F E 0 0 s 2 [(0, .ref (adE E 279)), (1, .int (jI x1_2))] []) (by
    intro x1_2 h g1_2
    have j50 : ∀ (x1 : Int), wj_X10_wrongBlank_50 (fun (x1_2 : Int) => rgI x1_2 → JJ F E 0 0 s 2 [(0, .ref (adE E 279)), (1, .int (jI x1_2))] [])  x1 s Q → rgI x1 → JJ F E 0 0 s 50 [(0, .ref (adE E 279)), (1, .int (jI x1))] [] := by
      intro x1 h g1
      refine J_iinc C dX10_wrongBlank_50 1 rfl (by decide) (lv' := [(1, .int (jI (x1 + 1))), (0, .ref (adE E 279))]) rfl ?_
      refine J_goto C (tgt := 2) dX10_wrongBlank_53 (by decide) ?_
      obtain ⟨g25, h⟩ := h
      exact J_sub [1, 0] rfl (h g25)
    refine J_iload_n C dX10_wrongBlank_2 rfl 1 rfl ?_
    refine J_aload_n C dX10_wrongBlank_3 rfl 0 rfl ?_
    refine gf_X10_typed C hs wf_X10_174 dX10_wrongBlank_4 (fun g21 => ?_)
    refine J_icmp_ge C g1_2 g21 (tgt := 56) dX10_wrongBlank_7 (by decide) (fun q35 => ?_) (fun q35 => ?_)
    · replace h := h.1 q35
      refine J_bipush C dX10_wrongBlank_56 (by decide) ?_
      exact J_iret C (Nat.zero_le _) (Nat.zero_le _) dX10_wrongBlank_58 (by rw [hF]; exact ⟨_, rfl, (rgN (-9) (by decide)), ⟨h, rfl⟩, rfl⟩)
    · replace h := h.2 q35
      refine J_aload_n C dX10_wrongBlank_10 rfl 0 rfl ?_
      refine gf_X10_text C hs wf_X10_13 dX10_wrongBlank_11 ?_
      refine J_iload_n C dX10_wrongBlank_14 rfl 1 rfl ?_
      obtain ⟨b22, b23, h⟩ := h
      refine J_iald C (dmM hs kc281 (by decide)) (n := 40) (clE_k E s kc281) (by decide) b22 b23 dX10_wrongBlank_15 (fun g24 => ?_)
      refine J_bipush C dX10_wrongBlank_16 (by decide) ?_
      refine J_icmp_ne C g24 (rgN 32 (by decide)) (tgt := 50) dX10_wrongBlank_18 (by decide) (fun q34 => ?_) (fun q34 => ?_)
      · replace h := h.2 q34
        exact J_sub [0, 1] rfl (j50 _ h g1_2)
      · replace h := h.1 q34
        refine J_iload_n C dX10_wrongBlank_21 rfl 1 rfl ?_
        refine J_if_eq C g1_2 (tgt := 48) dX10_wrongBlank_22 (by decide) (fun q33 => ?_) (fun q33 => ?_)
        · replace h := h.1 q33
          refine J_iload_n C dX10_wrongBlank_48 rfl 1 rfl ?_
          exact J_iret C (Nat.zero_le _) (Nat.zero_le _) dX10_wrongBlank_49 (by rw [hF]; exact ⟨_, rfl, g1_2, ⟨h, rfl⟩, rfl⟩)
        · replace h := h.2 q33
          refine J_iload_n C dX10_wrongBlank_25 rfl 1 rfl ?_
          refine J_aload_n C dX10_wrongBlank_26 rfl 0 rfl ?_
          refine gf_X10_typed C hs wf_X10_174 dX10_wrongBlank_27 (fun g26 => ?_)
          refine J_iconst C dX10_wrongBlank_30 ?_
          refine J_isub C dX10_wrongBlank_31 ?_
          obtain ⟨g27, h⟩ := h
          refine J_icmp_eq C g1_2 g27 (tgt := 48) dX10_wrongBlank_32 (by decide) (fun q32 => ?_) (fun q32 => ?_)
          · replace h := h.1 q32
            refine J_iload_n C dX10_wrongBlank_48 rfl 1 rfl ?_
            exact J_iret C (Nat.zero_le _) (Nat.zero_le _) dX10_wrongBlank_49 (by rw [hF]; exact ⟨_, rfl, g1_2, ⟨h, rfl⟩, rfl⟩)
          · replace h := h.2 q32
            refine J_aload_n C dX10_wrongBlank_35 rfl 0 rfl ?_
            refine gf_X10_text C hs wf_X10_13 dX10_wrongBlank_36 ?_
            refine J_iload_n C dX10_wrongBlank_39 rfl 1 rfl ?_
            refine J_iconst C dX10_wrongBlank_40 ?_
            refine J_isub C dX10_wrongBlank_41 ?_
            obtain ⟨b28, b29, h⟩ := h
            refine J_iald C (dmM hs kc281 (by decide)) (n := 40) (clE_k E s kc281) (by decide) b28 b29 dX10_wrongBlank_42 (fun g30 => ?_)
            refine J_bipush C dX10_wrongBlank_43 (by decide) ?_
            refine J_icmp_ne C g30 (rgN 32 (by decide)) (tgt := 50) dX10_wrongBlank_45 (by decide) (fun q31 => ?_) (fun q31 => ?_)
            · replace h := h.2 q31
              exact J_sub [0, 1] rfl (j50 _ h g1_2)
            · replace h := h.1 q31
              refine J_iload_n C dX10_wrongBlank_48 rfl 1 rfl ?_
              exact J_iret C (Nat.zero_le _) (Nat.zero_le _) dX10_wrongBlank_49 (by rw [hF]; exact ⟨_, rfl, g1_2, ⟨h, rfl⟩, rfl⟩)
  )
  exact J_sub [1, 0] rfl (h (rgN 0 (by decide)))
set_option maxHeartbeats 4000000 in
set_option maxRecDepth 100000 in
theorem ct_X10_areTimes {l : Launch} {E : ET} (hs : eS E = false) {s : Sg} {x0 : Int} (g0 : rgI x0) {x1 : Int} (g1 : rgI x1) {Q : Int → Prop} (h : wp_X10_areTimes x0 x1 s Q) : MetE l E yX10_areTimes cX10_areTimes 2 (some .boolean) rm_X10_areTimes s [.int (jI x0), .int (jI x1)] (qZ (fun r t => Q r ∧ t = s) (gN s)) := by
  refine MetJ (by decide +kernel) (Nat.le_of_ble_eq_true rfl) ?_
  intro F hl C hF
  subst hl
  show JJ F E 0 0 s 0 [(0, .int (jI x0)), (1, .int (jI x1))] []
  refine J_iload_n C dX10_areTimes_0 rfl 0 rfl ?_
  refine J_if_lt C g0 (tgt := 20) dX10_areTimes_1 (by decide) (fun q23 => ?_) (fun q23 => ?_)
  · replace h := h.1 q23
    refine J_iconst C dX10_areTimes_20 ?_
    exact J_zret C (Nat.zero_le _) (Nat.zero_le _) (nar_z (Or.inl rfl)) dX10_areTimes_21 (by rw [hF]; exact ⟨_, rfl, (Or.inl rfl), ⟨h, rfl⟩, rfl⟩)
  · replace h := h.2 q23
    refine J_iload_n C dX10_areTimes_4 rfl 0 rfl ?_
    refine J_iload_n C dX10_areTimes_5 rfl 1 rfl ?_
    refine J_icmp_ge C g0 g1 (tgt := 20) dX10_areTimes_6 (by decide) (fun q22 => ?_) (fun q22 => ?_)
    · replace h := h.1 q22
      refine J_iconst C dX10_areTimes_20 ?_
      exact J_zret C (Nat.zero_le _) (Nat.zero_le _) (nar_z (Or.inl rfl)) dX10_areTimes_21 (by rw [hF]; exact ⟨_, rfl, (Or.inl rfl), ⟨h, rfl⟩, rfl⟩)
    · replace h := h.2 q22
      refine J_iload_n C dX10_areTimes_9 rfl 1 rfl ?_
      refine J_sipush C dX10_areTimes_10 (by decide) ?_
      refine J_icmp_gt C g1 (rgN 9999 (by decide)) (tgt := 20) dX10_areTimes_13 (by decide) (fun q21 => ?_) (fun q21 => ?_)
      · replace h := h.1 q21
        refine J_iconst C dX10_areTimes_20 ?_
        exact J_zret C (Nat.zero_le _) (Nat.zero_le _) (nar_z (Or.inl rfl)) dX10_areTimes_21 (by rw [hF]; exact ⟨_, rfl, (Or.inl rfl), ⟨h, rfl⟩, rfl⟩)
      · replace h := h.2 q21
        refine J_iconst C dX10_areTimes_16 ?_
        refine J_goto C (tgt := 21) dX10_areTimes_17 (by decide) ?_
        exact J_zret C (Nat.zero_le _) (Nat.zero_le _) (nar_z (Or.inr rfl)) dX10_areTimes_21 (by rw [hF]; exact ⟨_, rfl, (Or.inr rfl), ⟨h, rfl⟩, rfl⟩)
set_option maxHeartbeats 4000000 in
set_option maxRecDepth 100000 in
theorem ct_X10_placeOf {l : Launch} {E : ET} (hs : eS E = false) {s : Sg} {x1 : Int} (g1 : rgI x1) {Q : Int → Prop} (h : wp_X10_placeOf x1 s Q) : MetE l E yX10_placeOf cX10_placeOf 3 (some .int) rm_X10_placeOf s [.ref (adE E 279), .int (jI x1)] (qI (fun r t => Q r ∧ t = s) (gN s)) := by
  refine MetJ (by decide +kernel) (Nat.le_of_ble_eq_true rfl) ?_
  intro F hl C hF
  subst hl
  show JJ F E 0 0 s 0 [(0, .ref (adE E 279)), (1, .int (jI x1))] []
  refine J_iconst C dX10_placeOf_0 ?_
  refine J_istore_n C dX10_placeOf_1 rfl (by decide) (lv' := [(2, .int (jI 0)), (0, .ref (adE E 279)), (1, .int (jI x1))]) rfl ?_
  replace h := h (fun (x2_2 : Int) => rgI x2_2 → JJ F E 0 0 s 2 [(0, .ref (adE E 279)), (1, .int (jI x1)), (2, .int (jI x2_2))] []) (by
    intro x2_2 h g2_2
    refine J_aload_n C dX10_placeOf_2 rfl 0 rfl ?_
    refine gf_X10_one C hs wf_X10_25 dX10_placeOf_3 ?_
    refine J_iload_n C dX10_placeOf_6 rfl 2 rfl ?_
    obtain ⟨b21, b22, h⟩ := h
    refine J_iald C (dmM hs kc285 (by decide)) (n := 16) (clE_k E s kc285) (by decide) b21 b22 dX10_placeOf_7 (fun g23 => ?_)
    refine J_iload_n C dX10_placeOf_8 rfl 1 rfl ?_
    refine J_icmp_eq C g23 g1 (tgt := 18) dX10_placeOf_9 (by decide) (fun q25 => ?_) (fun q25 => ?_)
    · replace h := h.1 q25
      refine J_iload_n C dX10_placeOf_18 rfl 2 rfl ?_
      exact J_iret C (Nat.zero_le _) (Nat.zero_le _) dX10_placeOf_19 (by rw [hF]; exact ⟨_, rfl, g2_2, ⟨h, rfl⟩, rfl⟩)
    · replace h := h.2 q25
      refine J_iinc C dX10_placeOf_12 2 rfl (by decide) (lv' := [(2, .int (jI (x2_2 + 1))), (0, .ref (adE E 279)), (1, .int (jI x1))]) rfl ?_
      refine J_goto C (tgt := 2) dX10_placeOf_15 (by decide) ?_
      obtain ⟨g24, h⟩ := h
      exact J_sub [1, 2, 0] rfl (h g24)
  )
  exact J_sub [1, 2, 0] rfl (h (rgN 0 (by decide)))
set_option maxHeartbeats 4000000 in
set_option maxRecDepth 100000 in
theorem ct_X10_add {l : Launch} {E : ET} (hs : eS E = false) {s : Sg} {x1 : Int} (g1 : rgI x1) {x2 : Int} (g2 : rgI x2) {x3 : Int} (g3 : rgI x3) {Q : Int → Sg → Prop} (h : wp_X10_add x1 x2 x3 s Q) : MetE l E yX10_add cX10_add 6 (some .int) rm_X10_add s [.ref (adE E 279), .int (jI x1), .int (jI x2), .int (jI x3)] (qI Q (gN s)) := by
  refine MetJ (by decide +kernel) (Nat.le_of_ble_eq_true rfl) ?_
  intro F hl C hF
  subst hl
  show JJ F E 0 0 s 0 [(0, .ref (adE E 279)), (1, .int (jI x1)), (2, .int (jI x2)), (3, .int (jI x3))] []
  have j50 : ∀ (sj : Sg), wj_X10_add_50    sj Q → gN sj = gN s → JJ F E 0 0 sj 50 [(0, .ref (adE E 279))] [] := by
    intro sj h nj
    refine J_aload_n C dX10_add_50 rfl 0 rfl ?_
    refine gf_X10_typed C hs wf_X10_174 dX10_add_51 (fun g33 => ?_)
    refine J_if_ne C g33 (tgt := 62) dX10_add_54 (by decide) (fun q39 => ?_) (fun q39 => ?_)
    · replace h := h.2 q39
      refine J_bipush C dX10_add_62 (by decide) ?_
      refine J_aload_n C dX10_add_64 rfl 0 rfl ?_
      refine J_V C (ct_X10_wrongBlank hs h) ck_X10_wrongBlank wm_X10_181 win_X10_wrongBlank wsel_X10_wrongBlank (dmM hs kc279 (by decide)) (clE_k E sj kc279) rfl ⟨rfl, rfl⟩ (by decide) (by decide) (As := []) (rest := [.int (jI (-10))]) rfl rfl (Nat.le_of_ble_eq_true rfl) dX10_add_65 (J_pI (fun v34 g36 h => ?_))
      refine J_isub C dX10_add_68 ?_
      obtain ⟨g38, h⟩ := h
      exact J_iret C (Nat.zero_le _) (Nat.zero_le _) dX10_add_69 (by rw [hF]; exact ⟨_, rfl, g38, h, nj⟩)
    · replace h := h.1 q39
      refine J_bipush C dX10_add_57 (by decide) ?_
      refine J_goto C (tgt := 69) dX10_add_59 (by decide) ?_
      exact J_iret C (Nat.zero_le _) (Nat.zero_le _) dX10_add_69 (by rw [hF]; exact ⟨_, rfl, (rgN (-10) (by decide)), h, nj⟩)
  refine J_iload_n C dX10_add_0 rfl 1 rfl ?_
  refine J_iload_n C dX10_add_1 rfl 2 rfl ?_
  refine J_S C (ct_X10_areTimes hs g1 g2 h) ck_X10_areTimes wm_X10_177 wst_X10_areTimes ⟨rfl, rfl⟩ (by decide) (by decide) (As := [.int (jI x1), .int (jI x2)]) (rest := []) rfl rfl (Nat.le_of_ble_eq_true rfl) dX10_add_2 (J_pZ (fun v21 g23 h => ?_))
  refine J_if_eq C (rg_z g23) (tgt := 17) dX10_add_5 (by decide) (fun q129 => ?_) (fun q129 => ?_)
  · replace h := h.1 q129
    refine J_iconst C dX10_add_17 ?_
    exact J_iret C (Nat.zero_le _) (Nat.zero_le _) dX10_add_18 (by rw [hF]; exact ⟨_, rfl, (rgN (-1) (by decide)), h, rfl⟩)
  · replace h := h.2 q129
    refine J_iload_n C dX10_add_8 rfl 3 rfl ?_
    refine J_iconst C dX10_add_9 ?_
    refine J_iconst C dX10_add_10 ?_
    refine J_S C (ct_X10_in hs g3 (rgN 0 (by decide)) (rgN 3 (by decide)) h) ck_X10_in wm_X10_60 wst_X10_in ⟨rfl, rfl⟩ (by decide) (by decide) (As := [.int (jI x3), .int (jI 0), .int (jI 3)]) (rest := []) rfl rfl (Nat.le_of_ble_eq_true rfl) dX10_add_11 (J_pZ (fun v25 g27 h => ?_))
    refine J_if_ne C (rg_z g27) (tgt := 19) dX10_add_14 (by decide) (fun q128 => ?_) (fun q128 => ?_)
    · replace h := h.2 q128
      refine J_aload_n C dX10_add_19 rfl 0 rfl ?_
      refine gf_X10_page C hs wf_X10_7 dX10_add_20 ?_
      refine J_bipush C dX10_add_23 (by decide) ?_
      obtain ⟨b29, b30, h⟩ := h
      refine J_iald C (dmM hs kc280 (by decide)) (n := 12960) (clE_k E s kc280) (by decide) b29 b30 dX10_add_25 (fun g31 => ?_)
      refine J_bipush C dX10_add_26 (by decide) ?_
      refine J_icmp_ne C g31 (rgN 16 (by decide)) (tgt := 34) dX10_add_28 (by decide) (fun q127 => ?_) (fun q127 => ?_)
      · replace h := h.2 q127
        refine J_aload_n C dX10_add_34 rfl 0 rfl ?_
        refine gf_X10_typed C hs wf_X10_174 dX10_add_35 (fun g32 => ?_)
        refine J_if_eq C g32 (tgt := 50) dX10_add_38 (by decide) (fun q126 => ?_) (fun q126 => ?_)
        · replace h := h.1 q126
          exact J_sub [0] rfl (j50  _ h rfl)
        · replace h := h.2 q126
          refine J_aload_n C dX10_add_41 rfl 0 rfl ?_
          refine J_V C (ct_X10_wrongBlank hs h) ck_X10_wrongBlank wm_X10_181 win_X10_wrongBlank wsel_X10_wrongBlank (dmM hs kc279 (by decide)) (clE_k E s kc279) rfl ⟨rfl, rfl⟩ (by decide) (by decide) (As := []) (rest := []) rfl rfl (Nat.le_of_ble_eq_true rfl) dX10_add_42 (J_pI (fun v40 g42 h => ?_))
          refine J_bipush C dX10_add_45 (by decide) ?_
          refine J_icmp_eq C g42 (rgN (-9) (by decide)) (tgt := 70) dX10_add_47 (by decide) (fun q125 => ?_) (fun q125 => ?_)
          · replace h := h.1 q125
            refine J_aload_n C dX10_add_70 rfl 0 rfl ?_
            refine J_V C (ct_X10_records hs h) ck_X10_records wm_X10_68 win_X10_records wsel_X10_records (dmM hs kc279 (by decide)) (clE_k E s kc279) rfl ⟨rfl, rfl⟩ (by decide) (by decide) (As := []) (rest := []) rfl rfl (Nat.le_of_ble_eq_true rfl) dX10_add_71 (J_kV (fun s45 h n47 => ?_))
            have n48 : gN s45 = gN s := n47
            refine J_aload_n C dX10_add_74 rfl 0 rfl ?_
            refine J_V C (ct_X10_takes hs h) ck_X10_takes wm_X10_155 win_X10_takes wsel_X10_takes (dmM hs kc279 (by decide)) (clE_k E s45 kc279) rfl ⟨rfl, rfl⟩ (by decide) (by decide) (As := []) (rest := []) rfl rfl (Nat.le_of_ble_eq_true rfl) dX10_add_75 (J_kV (fun s50 h n52 => ?_))
            have n53 : gN s50 = gN s := n52.trans (n48)
            refine J_aload_n C dX10_add_78 rfl 0 rfl ?_
            refine gf_X10_many C hs wf_X10_84 dX10_add_79 (fun g54 => ?_)
            obtain ⟨x4_82, e55⟩ : ∃ v : Int, v = (gI s50 279 9) := ⟨_, rfl⟩
            replace h := h x4_82 e55
            have g4_82 : rgI x4_82 := by rw [e55]; exact g54
            refine J_top e55 ?_
            refine J_istore C dX10_add_82 (by decide) (lv' := [(4, .int (jI x4_82)), (0, .ref (adE E 279)), (1, .int (jI x1)), (2, .int (jI x2)), (3, .int (jI x3))]) rfl ?_
            refine J_aload_n C dX10_add_84 rfl 1 rfl ?_
            refine gf_X10_page C hs wf_X10_7 dX10_add_85 ?_
            refine J_aload_n C dX10_add_88 rfl 1 rfl ?_
            refine J_iconst C dX10_add_89 ?_
            refine J_iload C dX10_add_90 0 rfl ?_
            refine J_imul C dX10_add_92 ?_
            obtain ⟨g56, h⟩ := h
            refine J_V C (ct_X10_partAt hs g56 h) ck_X10_partAt wm_X10_91 win_X10_partAt wsel_X10_partAt (dmM hs kc279 (by decide)) (clE_k E s50 kc279) rfl ⟨rfl, rfl⟩ (by decide) (by decide) (As := [.int (jI (2 * x4_82))]) (rest := [.ref (adE E 280)]) rfl rfl (Nat.le_of_ble_eq_true rfl) dX10_add_93 (J_pI (fun v57 g59 h => ?_))
            refine J_iload_n C dX10_add_96 rfl 4 rfl ?_
            obtain ⟨b61, b62, h⟩ := h
            refine J_iast C (wrM hs kc280 (by decide)) (n := 12960) (fun z => clE_k E z kc280) (by decide) b61 b62 g3 dX10_add_97 ?_
            obtain ⟨s63, f64⟩ : ∃ z : Sg, z = sI s50 280 v57 x3 := ⟨_, rfl⟩
            replace h := h s63 f64
            refine J_sig f64 ?_
            have n65 : gN s63 = gN s := by rw [f64]; exact n53
            refine J_aload_n C dX10_add_98 rfl 1 rfl ?_
            refine gf_X10_page C hs wf_X10_7 dX10_add_99 ?_
            refine J_aload_n C dX10_add_102 rfl 1 rfl ?_
            refine J_iconst C dX10_add_103 ?_
            refine J_iload C dX10_add_104 0 rfl ?_
            refine J_imul C dX10_add_106 ?_
            obtain ⟨g66, h⟩ := h
            refine J_V C (ct_X10_partAt hs g66 h) ck_X10_partAt wm_X10_91 win_X10_partAt wsel_X10_partAt (dmM hs kc279 (by decide)) (clE_k E s63 kc279) rfl ⟨rfl, rfl⟩ (by decide) (by decide) (As := [.int (jI (2 * x4_82))]) (rest := [.ref (adE E 280)]) rfl rfl (Nat.le_of_ble_eq_true rfl) dX10_add_107 (J_pI (fun v67 g69 h => ?_))
            refine J_iconst C dX10_add_110 ?_
            refine J_iadd C dX10_add_111 ?_
            refine J_aload_n C dX10_add_112 rfl 1 rfl ?_
            refine gf_X10_typed C hs wf_X10_174 dX10_add_113 (fun g71 => ?_)
            obtain ⟨b72, b73, h⟩ := h
            refine J_iast C (wrM hs kc280 (by decide)) (n := 12960) (fun z => clE_k E z kc280) (by decide) b72 b73 g71 dX10_add_116 ?_
            obtain ⟨s74, f75⟩ : ∃ z : Sg, z = sI s63 280 (v67 + 1) (gI s63 279 3) := ⟨_, rfl⟩
            replace h := h s74 f75
            refine J_sig f75 ?_
            have n76 : gN s74 = gN s := by rw [f75]; exact n65
            refine J_iconst C dX10_add_117 ?_
            refine J_istore C dX10_add_118 (by decide) (lv' := [(5, .int (jI 0)), (4, .int (jI x4_82)), (0, .ref (adE E 279)), (1, .int (jI x1)), (2, .int (jI x2)), (3, .int (jI x3))]) rfl ?_
            replace h := h (fun (x5_120 : Int) (sL120 : Sg) => rgI x5_120 → gN sL120 = gN s → JJ F E 0 0 sL120 120 [(0, .ref (adE E 279)), (1, .int (jI x1)), (2, .int (jI x2)), (4, .int (jI x4_82)), (5, .int (jI x5_120))] []) (by
              intro x5_120 sL120 h g5_120 nL120
              refine J_iload C dX10_add_120 4 rfl ?_
              refine J_aload_n C dX10_add_122 rfl 0 rfl ?_
              refine gf_X10_typed C hs wf_X10_174 dX10_add_123 (fun g77 => ?_)
              refine J_icmp_ge C g5_120 g77 (tgt := 160) dX10_add_126 (by decide) (fun q124 => ?_) (fun q124 => ?_)
              · replace h := h.1 q124
                refine J_aload_n C dX10_add_160 rfl 0 rfl ?_
                refine gf_X10_oldParts C hs wf_X10_37 dX10_add_161 ?_
                refine J_iload C dX10_add_164 3 rfl ?_
                refine J_iconst C dX10_add_166 ?_
                obtain ⟨b78, b79, h⟩ := h
                refine J_iast C (wrM hs kc289 (by decide)) (n := 16) (fun z => clE_k E z kc289) (by decide) b78 b79 (rgN 1 (by decide)) dX10_add_167 ?_
                obtain ⟨s80, f81⟩ : ∃ z : Sg, z = sI sL120 289 x4_82 1 := ⟨_, rfl⟩
                replace h := h s80 f81
                refine J_sig f81 ?_
                have n82 : gN s80 = gN s := by rw [f81]; exact nL120
                refine J_aload_n C dX10_add_168 rfl 0 rfl ?_
                refine gf_X10_oldOne C hs wf_X10_40 dX10_add_169 ?_
                refine J_iload C dX10_add_172 3 rfl ?_
                refine J_iconst C dX10_add_174 ?_
                refine J_iload C dX10_add_175 3 rfl ?_
                refine J_imul C dX10_add_177 ?_
                obtain ⟨b83, b84, g85, h⟩ := h
                refine J_iast C (wrM hs kc290 (by decide)) (n := 16) (fun z => clE_k E z kc290) (by decide) b83 b84 g85 dX10_add_178 ?_
                obtain ⟨s86, f87⟩ : ∃ z : Sg, z = sI s80 290 x4_82 (2 * x4_82) := ⟨_, rfl⟩
                replace h := h s86 f87
                refine J_sig f87 ?_
                have n88 : gN s86 = gN s := by rw [f87]; exact n82
                refine J_aload_n C dX10_add_179 rfl 0 rfl ?_
                refine gf_X10_oldTwo C hs wf_X10_43 dX10_add_180 ?_
                refine J_iload C dX10_add_183 3 rfl ?_
                refine J_iconst C dX10_add_185 ?_
                refine J_iload C dX10_add_186 3 rfl ?_
                refine J_imul C dX10_add_188 ?_
                refine J_iconst C dX10_add_189 ?_
                refine J_iadd C dX10_add_190 ?_
                obtain ⟨b89, b90, g91, h⟩ := h
                refine J_iast C (wrM hs kc291 (by decide)) (n := 16) (fun z => clE_k E z kc291) (by decide) b89 b90 g91 dX10_add_191 ?_
                obtain ⟨s92, f93⟩ : ∃ z : Sg, z = sI s86 291 x4_82 ((2 * x4_82) + 1) := ⟨_, rfl⟩
                replace h := h s92 f93
                refine J_sig f93 ?_
                have n94 : gN s92 = gN s := by rw [f93]; exact n88
                refine J_aload_n C dX10_add_192 rfl 0 rfl ?_
                refine J_iload_n C dX10_add_193 rfl 1 rfl ?_
                refine J_iload_n C dX10_add_194 rfl 2 rfl ?_
                refine J_iload C dX10_add_195 3 rfl ?_
                refine J_V C (ct_X10_inserts hs g1 g2 g4_82 h) ck_X10_inserts wm_X10_135 win_X10_inserts wsel_X10_inserts (dmM hs kc279 (by decide)) (clE_k E s92 kc279) rfl ⟨rfl, rfl⟩ (by decide) (by decide) (As := [.int (jI x1), .int (jI x2), .int (jI x4_82)]) (rest := []) rfl rfl (Nat.le_of_ble_eq_true rfl) dX10_add_197 (J_kV (fun s96 h n98 => ?_))
                have n99 : gN s96 = gN s := n98.trans (n94)
                refine J_aload_n C dX10_add_200 rfl 0 rfl ?_
                refine J_V C (ct_X10_lays hs h) ck_X10_lays wm_X10_184 win_X10_lays wsel_X10_lays (dmM hs kc279 (by decide)) (clE_k E s96 kc279) rfl ⟨rfl, rfl⟩ (by decide) (by decide) (As := []) (rest := []) rfl rfl (Nat.le_of_ble_eq_true rfl) dX10_add_201 (J_kV (fun s101 h n103 => ?_))
                have n104 : gN s101 = gN s := n103.trans (n99)
                refine J_aload_n C dX10_add_204 rfl 0 rfl ?_
                refine J_iconst C dX10_add_205 ?_
                refine J_iload C dX10_add_206 3 rfl ?_
                refine J_imul C dX10_add_208 ?_
                obtain ⟨g105, h⟩ := h
                refine J_V C (ct_X10_placeOf hs g105 h) ck_X10_placeOf wm_X10_187 win_X10_placeOf wsel_X10_placeOf (dmM hs kc279 (by decide)) (clE_k E s101 kc279) rfl ⟨rfl, rfl⟩ (by decide) (by decide) (As := [.int (jI (2 * x4_82))]) (rest := []) rfl rfl (Nat.le_of_ble_eq_true rfl) dX10_add_209 (J_pI (fun v106 g108 h => ?_))
                exact J_iret C (Nat.zero_le _) (Nat.zero_le _) dX10_add_212 (by rw [hF]; exact ⟨_, rfl, g108, h, n104⟩)
              · replace h := h.2 q124
                refine J_aload_n C dX10_add_129 rfl 0 rfl ?_
                refine gf_X10_page C hs wf_X10_7 dX10_add_130 ?_
                refine J_aload_n C dX10_add_133 rfl 0 rfl ?_
                refine J_iconst C dX10_add_134 ?_
                refine J_iload C dX10_add_135 3 rfl ?_
                refine J_imul C dX10_add_137 ?_
                obtain ⟨g110, h⟩ := h
                refine J_V C (ct_X10_partAt hs g110 h) ck_X10_partAt wm_X10_91 win_X10_partAt wsel_X10_partAt (dmM hs kc279 (by decide)) (clE_k E sL120 kc279) rfl ⟨rfl, rfl⟩ (by decide) (by decide) (As := [.int (jI (2 * x4_82))]) (rest := [.ref (adE E 280)]) rfl rfl (Nat.le_of_ble_eq_true rfl) dX10_add_138 (J_pI (fun v111 g113 h => ?_))
                refine J_iconst C dX10_add_141 ?_
                refine J_iadd C dX10_add_142 ?_
                refine J_iload C dX10_add_143 4 rfl ?_
                refine J_iadd C dX10_add_145 ?_
                refine J_aload_n C dX10_add_146 rfl 0 rfl ?_
                refine gf_X10_text C hs wf_X10_13 dX10_add_147 ?_
                refine J_iload C dX10_add_150 4 rfl ?_
                obtain ⟨b115, b116, h⟩ := h
                refine J_iald C (dmM hs kc281 (by decide)) (n := 40) (clE_k E sL120 kc281) (by decide) b115 b116 dX10_add_152 (fun g117 => ?_)
                obtain ⟨b118, b119, h⟩ := h
                refine J_iast C (wrM hs kc280 (by decide)) (n := 12960) (fun z => clE_k E z kc280) (by decide) b118 b119 g117 dX10_add_153 ?_
                obtain ⟨s120, f121⟩ : ∃ z : Sg, z = sI sL120 280 ((v111 + 2) + x5_120) (gI sL120 281 x5_120) := ⟨_, rfl⟩
                replace h := h s120 f121
                refine J_sig f121 ?_
                have n122 : gN s120 = gN s := by rw [f121]; exact nL120
                refine J_iinc C dX10_add_154 4 rfl (by decide) (lv' := [(5, .int (jI (x5_120 + 1))), (0, .ref (adE E 279)), (1, .int (jI x1)), (2, .int (jI x2)), (4, .int (jI x4_82))]) rfl ?_
                refine J_goto C (tgt := 120) dX10_add_157 (by decide) ?_
                obtain ⟨g123, h⟩ := h
                exact J_sub [1, 2, 3, 4, 0] rfl (h g123 n122)
            )
            exact J_sub [2, 3, 4, 1, 0] rfl (h (rgN 0 (by decide)) n76)
          · replace h := h.2 q125
            exact J_sub [0] rfl (j50  _ h rfl)
      · replace h := h.1 q127
        refine J_bipush C dX10_add_31 (by decide) ?_
        exact J_iret C (Nat.zero_le _) (Nat.zero_le _) dX10_add_33 (by rw [hF]; exact ⟨_, rfl, (rgN (-3) (by decide)), h, rfl⟩)
    · replace h := h.1 q128
      refine J_iconst C dX10_add_17 ?_
      exact J_iret C (Nat.zero_le _) (Nat.zero_le _) dX10_add_18 (by rw [hF]; exact ⟨_, rfl, (rgN (-1) (by decide)), h, rfl⟩)
set_option maxHeartbeats 4000000 in
set_option maxRecDepth 100000 in
theorem ct_X10_isSubtitle {l : Launch} {E : ET} (hs : eS E = false) {s : Sg} {x1 : Int} (g1 : rgI x1) {Q : Int → Prop} (h : wp_X10_isSubtitle x1 s Q) : MetE l E yX10_isSubtitle cX10_isSubtitle 2 (some .boolean) rm_X10_isSubtitle s [.ref (adE E 279), .int (jI x1)] (qZ (fun r t => Q r ∧ t = s) (gN s)) := by
  refine MetJ (by decide +kernel) (Nat.le_of_ble_eq_true rfl) ?_
  intro F hl C hF
  subst hl
  show JJ F E 0 0 s 0 [(0, .ref (adE E 279)), (1, .int (jI x1))] []
  refine J_iload_n C dX10_isSubtitle_0 rfl 1 rfl ?_
  refine J_iconst C dX10_isSubtitle_1 ?_
  refine J_aload_n C dX10_isSubtitle_2 rfl 0 rfl ?_
  refine gf_X10_page C hs wf_X10_7 dX10_isSubtitle_3 ?_
  refine J_bipush C dX10_isSubtitle_6 (by decide) ?_
  obtain ⟨b21, b22, h⟩ := h
  refine J_iald C (dmM hs kc280 (by decide)) (n := 12960) (clE_k E s kc280) (by decide) b21 b22 dX10_isSubtitle_8 (fun g23 => ?_)
  refine J_iconst C dX10_isSubtitle_9 ?_
  refine J_isub C dX10_isSubtitle_10 ?_
  obtain ⟨g24, h⟩ := h
  refine J_S C (ct_X10_in hs g1 (rgN 0 (by decide)) g24 h) ck_X10_in wm_X10_60 wst_X10_in ⟨rfl, rfl⟩ (by decide) (by decide) (As := [.int (jI x1), .int (jI 0), .int (jI ((gI s 280 42) - 1))]) (rest := []) rfl rfl (Nat.le_of_ble_eq_true rfl) dX10_isSubtitle_11 (J_pZ (fun v25 g27 h => ?_))
  exact J_zret C (Nat.zero_le _) (Nat.zero_le _) (nar_z g27) dX10_isSubtitle_14 (by rw [hF]; exact ⟨_, rfl, g27, ⟨h, rfl⟩, rfl⟩)
set_option maxHeartbeats 4000000 in
set_option maxRecDepth 100000 in
theorem ct_X10_drop {l : Launch} {E : ET} (hs : eS E = false) {s : Sg} {x1 : Int} (g1 : rgI x1) {Q : Int → Sg → Prop} (h : wp_X10_drop x1 s Q) : MetE l E yX10_drop cX10_drop 4 (some .int) rm_X10_drop s [.ref (adE E 279), .int (jI x1)] (qI Q (gN s)) := by
  refine MetJ (by decide +kernel) (Nat.le_of_ble_eq_true rfl) ?_
  intro F hl C hF
  subst hl
  show JJ F E 0 0 s 0 [(0, .ref (adE E 279)), (1, .int (jI x1))] []
  refine J_aload_n C dX10_drop_0 rfl 0 rfl ?_
  refine J_iload_n C dX10_drop_1 rfl 1 rfl ?_
  refine J_V C (ct_X10_isSubtitle hs g1 h) ck_X10_isSubtitle wm_X10_190 win_X10_isSubtitle wsel_X10_isSubtitle (dmM hs kc279 (by decide)) (clE_k E s kc279) rfl ⟨rfl, rfl⟩ (by decide) (by decide) (As := [.int (jI x1)]) (rest := []) rfl rfl (Nat.le_of_ble_eq_true rfl) dX10_drop_2 (J_pZ (fun v21 g23 h => ?_))
  refine J_if_ne C (rg_z g23) (tgt := 10) dX10_drop_5 (by decide) (fun q64 => ?_) (fun q64 => ?_)
  · replace h := h.2 q64
    refine J_aload_n C dX10_drop_10 rfl 0 rfl ?_
    refine J_V C (ct_X10_records hs h) ck_X10_records wm_X10_68 win_X10_records wsel_X10_records (dmM hs kc279 (by decide)) (clE_k E s kc279) rfl ⟨rfl, rfl⟩ (by decide) (by decide) (As := []) (rest := []) rfl rfl (Nat.le_of_ble_eq_true rfl) dX10_drop_11 (J_kV (fun s26 h n28 => ?_))
    have n29 : gN s26 = gN s := n28
    refine J_aload_n C dX10_drop_14 rfl 0 rfl ?_
    refine J_V C (ct_X10_takes hs h) ck_X10_takes wm_X10_155 win_X10_takes wsel_X10_takes (dmM hs kc279 (by decide)) (clE_k E s26 kc279) rfl ⟨rfl, rfl⟩ (by decide) (by decide) (As := []) (rest := []) rfl rfl (Nat.le_of_ble_eq_true rfl) dX10_drop_15 (J_kV (fun s31 h n33 => ?_))
    have n34 : gN s31 = gN s := n33.trans (n29)
    refine J_aload_n C dX10_drop_18 rfl 0 rfl ?_
    refine gf_X10_many C hs wf_X10_84 dX10_drop_19 (fun g35 => ?_)
    obtain ⟨x2_22, e36⟩ : ∃ v : Int, v = (gI s31 279 9) := ⟨_, rfl⟩
    replace h := h x2_22 e36
    have g2_22 : rgI x2_22 := by rw [e36]; exact g35
    refine J_top e36 ?_
    refine J_istore_n C dX10_drop_22 rfl (by decide) (lv' := [(2, .int (jI x2_22)), (0, .ref (adE E 279)), (1, .int (jI x1))]) rfl ?_
    refine J_aload_n C dX10_drop_23 rfl 1 rfl ?_
    refine J_V C (ct_X10_empties hs h) ck_X10_empties wm_X10_139 win_X10_empties wsel_X10_empties (dmM hs kc279 (by decide)) (clE_k E s31 kc279) rfl ⟨rfl, rfl⟩ (by decide) (by decide) (As := []) (rest := []) rfl rfl (Nat.le_of_ble_eq_true rfl) dX10_drop_24 (J_kV (fun s38 h n40 => ?_))
    have n41 : gN s38 = gN s := n40.trans (n34)
    refine J_iconst C dX10_drop_27 ?_
    refine J_istore_n C dX10_drop_28 rfl (by decide) (lv' := [(3, .int (jI 0)), (2, .int (jI x2_22)), (0, .ref (adE E 279)), (1, .int (jI x1))]) rfl ?_
    replace h := h (fun (x3_29 : Int) (sL29 : Sg) => rgI x3_29 → gN sL29 = gN s → JJ F E 0 0 sL29 29 [(0, .ref (adE E 279)), (1, .int (jI x1)), (2, .int (jI x2_22)), (3, .int (jI x3_29))] []) (by
      intro x3_29 sL29 h g3_29 nL29
      have j56 : ∀ (x3 : Int) (sj : Sg), wj_X10_drop_56 (fun (x3_29 : Int) (sL29 : Sg) => rgI x3_29 → gN sL29 = gN s → JJ F E 0 0 sL29 29 [(0, .ref (adE E 279)), (1, .int (jI x1)), (2, .int (jI x2_22)), (3, .int (jI x3_29))] []) x1 x2_22 x3 sj Q → rgI x3 → gN sj = gN s → JJ F E 0 0 sj 56 [(0, .ref (adE E 279)), (1, .int (jI x1)), (2, .int (jI x2_22)), (3, .int (jI x3))] [] := by
        intro x3 sj h g3 nj
        refine J_iinc C dX10_drop_56 3 rfl (by decide) (lv' := [(3, .int (jI (x3 + 1))), (0, .ref (adE E 279)), (1, .int (jI x1)), (2, .int (jI x2_22))]) rfl ?_
        refine J_goto C (tgt := 29) dX10_drop_59 (by decide) ?_
        obtain ⟨g50, h⟩ := h
        exact J_sub [1, 2, 3, 0] rfl (h g50 nj)
      refine J_iload_n C dX10_drop_29 rfl 3 rfl ?_
      refine J_iload_n C dX10_drop_30 rfl 2 rfl ?_
      refine J_icmp_ge C g3_29 g2_22 (tgt := 62) dX10_drop_31 (by decide) (fun q63 => ?_) (fun q63 => ?_)
      · replace h := h.1 q63
        refine J_aload_n C dX10_drop_62 rfl 0 rfl ?_
        refine J_V C (ct_X10_lays hs h) ck_X10_lays wm_X10_184 win_X10_lays wsel_X10_lays (dmM hs kc279 (by decide)) (clE_k E sL29 kc279) rfl ⟨rfl, rfl⟩ (by decide) (by decide) (As := []) (rest := []) rfl rfl (Nat.le_of_ble_eq_true rfl) dX10_drop_63 (J_kV (fun s43 h n45 => ?_))
        have n46 : gN s43 = gN s := n45.trans (nL29)
        refine J_aload_n C dX10_drop_66 rfl 0 rfl ?_
        refine gf_X10_page C hs wf_X10_7 dX10_drop_67 ?_
        refine J_bipush C dX10_drop_70 (by decide) ?_
        obtain ⟨b47, b48, h⟩ := h
        refine J_iald C (dmM hs kc280 (by decide)) (n := 12960) (clE_k E s43 kc280) (by decide) b47 b48 dX10_drop_72 (fun g49 => ?_)
        exact J_iret C (Nat.zero_le _) (Nat.zero_le _) dX10_drop_73 (by rw [hF]; exact ⟨_, rfl, g49, h, n46⟩)
      · replace h := h.2 q63
        refine J_iload_n C dX10_drop_34 rfl 3 rfl ?_
        refine J_iload_n C dX10_drop_35 rfl 1 rfl ?_
        refine J_icmp_eq C g3_29 g1 (tgt := 56) dX10_drop_36 (by decide) (fun q62 => ?_) (fun q62 => ?_)
        · replace h := h.1 q62
          exact J_sub [0, 1, 2, 3] rfl (j56 _ _ h g3_29 nL29)
        · replace h := h.2 q62
          refine J_aload_n C dX10_drop_39 rfl 0 rfl ?_
          refine J_aload_n C dX10_drop_40 rfl 0 rfl ?_
          refine gf_X10_oldBegins C hs wf_X10_31 dX10_drop_41 ?_
          refine J_iload_n C dX10_drop_44 rfl 3 rfl ?_
          obtain ⟨b51, b52, h⟩ := h
          refine J_iald C (dmM hs kc287 (by decide)) (n := 16) (clE_k E sL29 kc287) (by decide) b51 b52 dX10_drop_45 (fun g53 => ?_)
          refine J_aload_n C dX10_drop_46 rfl 0 rfl ?_
          refine gf_X10_oldEnds C hs wf_X10_34 dX10_drop_47 ?_
          refine J_iload_n C dX10_drop_50 rfl 3 rfl ?_
          obtain ⟨b54, b55, h⟩ := h
          refine J_iald C (dmM hs kc288 (by decide)) (n := 16) (clE_k E sL29 kc288) (by decide) b54 b55 dX10_drop_51 (fun g56 => ?_)
          refine J_iload_n C dX10_drop_52 rfl 3 rfl ?_
          refine J_V C (ct_X10_inserts hs g53 g56 g3_29 h) ck_X10_inserts wm_X10_135 win_X10_inserts wsel_X10_inserts (dmM hs kc279 (by decide)) (clE_k E sL29 kc279) rfl ⟨rfl, rfl⟩ (by decide) (by decide) (As := [.int (jI (gI sL29 287 x3_29)), .int (jI (gI sL29 288 x3_29)), .int (jI x3_29)]) (rest := []) rfl rfl (Nat.le_of_ble_eq_true rfl) dX10_drop_53 (J_kV (fun s58 h n60 => ?_))
          have n61 : gN s58 = gN s := n60.trans (nL29)
          exact J_sub [0, 1, 2, 3] rfl (j56 _ _ h g3_29 n61)
    )
    exact J_sub [2, 3, 1, 0] rfl (h (rgN 0 (by decide)) n41)
  · replace h := h.1 q64
    refine J_iconst C dX10_drop_8 ?_
    exact J_iret C (Nat.zero_le _) (Nat.zero_le _) dX10_drop_9 (by rw [hF]; exact ⟨_, rfl, (rgN (-1) (by decide)), h, rfl⟩)
