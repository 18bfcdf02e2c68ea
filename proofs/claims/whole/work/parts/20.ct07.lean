/-! contracts (printed by wip/whole/gen) -/
set_option maxHeartbeats 4000000 in
set_option maxRecDepth 100000 in
theorem ct_X10_empties {l : Launch} {E : ET} (hs : eS E = false) {s : Sg} {Q : Sg → Prop} (h : wp_X10_empties s Q) : MetE l E yX10_empties cX10_empties 2 none rm_X10_empties s [.ref (adE E 279)] (qV Q (gN s)) := by
  refine MetJ (by decide +kernel) (Nat.le_of_ble_eq_true rfl) ?_
  intro F hl C hF
  subst hl
  show JJ F E 0 0 s 0 [(0, .ref (adE E 279))] []
  refine J_iconst C dX10_empties_0 ?_
  refine J_istore_n C dX10_empties_1 rfl (by decide) (lv' := [(1, .int (jI 0)), (0, .ref (adE E 279))]) rfl ?_
  replace h := h (fun (x1_2 : Int) (sL2 : Sg) => rgI x1_2 → gN sL2 = gN s → JJ F E 0 0 sL2 2 [(0, .ref (adE E 279)), (1, .int (jI x1_2))] []) (by
    intro x1_2 sL2 h g1_2 nL2
    refine J_iload_n C dX10_empties_2 rfl 1 rfl ?_
    refine J_aload_n C dX10_empties_3 rfl 0 rfl ?_
    refine gf_X10_many C hs wf_X10_84 dX10_empties_4 (fun g21 => ?_)
    refine J_icmp_ge C g1_2 g21 (tgt := 76) dX10_empties_7 (by decide) (fun q66 => ?_) (fun q66 => ?_)
    · replace h := h.1 q66
      refine J_aload_n C dX10_empties_76 rfl 0 rfl ?_
      refine J_iconst C dX10_empties_77 ?_
      refine pf_X10_many C hs wf_X10_84 (rgN 0 (by decide)) dX10_empties_78 ?_
      obtain ⟨s22, f23⟩ : ∃ z : Sg, z = sI sL2 279 9 0 := ⟨_, rfl⟩
      replace h := h s22 f23
      refine J_sig f23 ?_
      have n24 : gN s22 = gN s := by rw [f23]; exact nL2
      exact J_vret C (Nat.zero_le _) (Nat.zero_le _) dX10_empties_81 (by rw [hF]; exact ⟨rfl, h, n24⟩)
    · replace h := h.2 q66
      refine J_aload_n C dX10_empties_10 rfl 0 rfl ?_
      refine gf_X10_oldBegins C hs wf_X10_31 dX10_empties_11 ?_
      refine J_iload_n C dX10_empties_14 rfl 1 rfl ?_
      refine J_aload_n C dX10_empties_15 rfl 0 rfl ?_
      refine gf_X10_begins C hs wf_X10_16 dX10_empties_16 ?_
      refine J_iload_n C dX10_empties_19 rfl 1 rfl ?_
      obtain ⟨b25, b26, h⟩ := h
      refine J_iald C (dmM hs kc282 (by decide)) (n := 16) (clE_k E sL2 kc282) (by decide) b25 b26 dX10_empties_20 (fun g27 => ?_)
      obtain ⟨b28, b29, h⟩ := h
      refine J_iast C (wrM hs kc287 (by decide)) (n := 16) (fun z => clE_k E z kc287) (by decide) b28 b29 g27 dX10_empties_21 ?_
      obtain ⟨s30, f31⟩ : ∃ z : Sg, z = sI sL2 287 x1_2 (gI sL2 282 x1_2) := ⟨_, rfl⟩
      replace h := h s30 f31
      refine J_sig f31 ?_
      have n32 : gN s30 = gN s := by rw [f31]; exact nL2
      refine J_aload_n C dX10_empties_22 rfl 0 rfl ?_
      refine gf_X10_oldEnds C hs wf_X10_34 dX10_empties_23 ?_
      refine J_iload_n C dX10_empties_26 rfl 1 rfl ?_
      refine J_aload_n C dX10_empties_27 rfl 0 rfl ?_
      refine gf_X10_ends C hs wf_X10_19 dX10_empties_28 ?_
      refine J_iload_n C dX10_empties_31 rfl 1 rfl ?_
      obtain ⟨b33, b34, h⟩ := h
      refine J_iald C (dmM hs kc283 (by decide)) (n := 16) (clE_k E s30 kc283) (by decide) b33 b34 dX10_empties_32 (fun g35 => ?_)
      obtain ⟨b36, b37, h⟩ := h
      refine J_iast C (wrM hs kc288 (by decide)) (n := 16) (fun z => clE_k E z kc288) (by decide) b36 b37 g35 dX10_empties_33 ?_
      obtain ⟨s38, f39⟩ : ∃ z : Sg, z = sI s30 288 x1_2 (gI s30 283 x1_2) := ⟨_, rfl⟩
      replace h := h s38 f39
      refine J_sig f39 ?_
      have n40 : gN s38 = gN s := by rw [f39]; exact n32
      refine J_aload_n C dX10_empties_34 rfl 0 rfl ?_
      refine gf_X10_oldParts C hs wf_X10_37 dX10_empties_35 ?_
      refine J_iload_n C dX10_empties_38 rfl 1 rfl ?_
      refine J_aload_n C dX10_empties_39 rfl 0 rfl ?_
      refine gf_X10_parts C hs wf_X10_22 dX10_empties_40 ?_
      refine J_iload_n C dX10_empties_43 rfl 1 rfl ?_
      obtain ⟨b41, b42, h⟩ := h
      refine J_iald C (dmM hs kc284 (by decide)) (n := 16) (clE_k E s38 kc284) (by decide) b41 b42 dX10_empties_44 (fun g43 => ?_)
      obtain ⟨b44, b45, h⟩ := h
      refine J_iast C (wrM hs kc289 (by decide)) (n := 16) (fun z => clE_k E z kc289) (by decide) b44 b45 g43 dX10_empties_45 ?_
      obtain ⟨s46, f47⟩ : ∃ z : Sg, z = sI s38 289 x1_2 (gI s38 284 x1_2) := ⟨_, rfl⟩
      replace h := h s46 f47
      refine J_sig f47 ?_
      have n48 : gN s46 = gN s := by rw [f47]; exact n40
      refine J_aload_n C dX10_empties_46 rfl 0 rfl ?_
      refine gf_X10_oldOne C hs wf_X10_40 dX10_empties_47 ?_
      refine J_iload_n C dX10_empties_50 rfl 1 rfl ?_
      refine J_aload_n C dX10_empties_51 rfl 0 rfl ?_
      refine gf_X10_one C hs wf_X10_25 dX10_empties_52 ?_
      refine J_iload_n C dX10_empties_55 rfl 1 rfl ?_
      obtain ⟨b49, b50, h⟩ := h
      refine J_iald C (dmM hs kc285 (by decide)) (n := 16) (clE_k E s46 kc285) (by decide) b49 b50 dX10_empties_56 (fun g51 => ?_)
      obtain ⟨b52, b53, h⟩ := h
      refine J_iast C (wrM hs kc290 (by decide)) (n := 16) (fun z => clE_k E z kc290) (by decide) b52 b53 g51 dX10_empties_57 ?_
      obtain ⟨s54, f55⟩ : ∃ z : Sg, z = sI s46 290 x1_2 (gI s46 285 x1_2) := ⟨_, rfl⟩
      replace h := h s54 f55
      refine J_sig f55 ?_
      have n56 : gN s54 = gN s := by rw [f55]; exact n48
      refine J_aload_n C dX10_empties_58 rfl 0 rfl ?_
      refine gf_X10_oldTwo C hs wf_X10_43 dX10_empties_59 ?_
      refine J_iload_n C dX10_empties_62 rfl 1 rfl ?_
      refine J_aload_n C dX10_empties_63 rfl 0 rfl ?_
      refine gf_X10_two C hs wf_X10_28 dX10_empties_64 ?_
      refine J_iload_n C dX10_empties_67 rfl 1 rfl ?_
      obtain ⟨b57, b58, h⟩ := h
      refine J_iald C (dmM hs kc286 (by decide)) (n := 16) (clE_k E s54 kc286) (by decide) b57 b58 dX10_empties_68 (fun g59 => ?_)
      obtain ⟨b60, b61, h⟩ := h
      refine J_iast C (wrM hs kc291 (by decide)) (n := 16) (fun z => clE_k E z kc291) (by decide) b60 b61 g59 dX10_empties_69 ?_
      obtain ⟨s62, f63⟩ : ∃ z : Sg, z = sI s54 291 x1_2 (gI s54 286 x1_2) := ⟨_, rfl⟩
      replace h := h s62 f63
      refine J_sig f63 ?_
      have n64 : gN s62 = gN s := by rw [f63]; exact n56
      refine J_iinc C dX10_empties_70 1 rfl (by decide) (lv' := [(1, .int (jI (x1_2 + 1))), (0, .ref (adE E 279))]) rfl ?_
      refine J_goto C (tgt := 2) dX10_empties_73 (by decide) ?_
      obtain ⟨g65, h⟩ := h
      exact J_sub [1, 0] rfl (h g65 n64)
  )
  exact J_sub [1, 0] rfl (h (rgN 0 (by decide)) rfl)
set_option maxHeartbeats 4000000 in
set_option maxRecDepth 100000 in
theorem ct_X10_sets {l : Launch} {E : ET} (hs : eS E = false) {s : Sg} {x1 : Int} (g1 : rgI x1) {x2 : Int} (g2 : rgI x2) {x3 : Int} (g3 : rgI x3) {x4 : Int} (g4 : rgI x4) {Q : Sg → Prop} (h : wp_X10_sets x1 x2 x3 x4 s Q) : MetE l E yX10_sets cX10_sets 5 none rm_X10_sets s [.ref (adE E 279), .int (jI x1), .int (jI x2), .int (jI x3), .int (jI x4)] (qV Q (gN s)) := by
  refine MetJ (by decide +kernel) (Nat.le_of_ble_eq_true rfl) ?_
  intro F hl C hF
  subst hl
  show JJ F E 0 0 s 0 [(0, .ref (adE E 279)), (1, .int (jI x1)), (2, .int (jI x2)), (3, .int (jI x3)), (4, .int (jI x4))] []
  refine J_aload_n C dX10_sets_0 rfl 0 rfl ?_
  refine gf_X10_begins C hs wf_X10_16 dX10_sets_1 ?_
  refine J_iload_n C dX10_sets_4 rfl 1 rfl ?_
  refine J_iload_n C dX10_sets_5 rfl 2 rfl ?_
  obtain ⟨b21, b22, h⟩ := h
  refine J_iast C (wrM hs kc282 (by decide)) (n := 16) (fun z => clE_k E z kc282) (by decide) b21 b22 g2 dX10_sets_6 ?_
  obtain ⟨s23, f24⟩ : ∃ z : Sg, z = sI s 282 x1 x2 := ⟨_, rfl⟩
  replace h := h s23 f24
  refine J_sig f24 ?_
  have n25 : gN s23 = gN s := by rw [f24]; exact rfl
  refine J_aload_n C dX10_sets_7 rfl 0 rfl ?_
  refine gf_X10_ends C hs wf_X10_19 dX10_sets_8 ?_
  refine J_iload_n C dX10_sets_11 rfl 1 rfl ?_
  refine J_iload_n C dX10_sets_12 rfl 3 rfl ?_
  obtain ⟨b26, b27, h⟩ := h
  refine J_iast C (wrM hs kc283 (by decide)) (n := 16) (fun z => clE_k E z kc283) (by decide) b26 b27 g3 dX10_sets_13 ?_
  obtain ⟨s28, f29⟩ : ∃ z : Sg, z = sI s23 283 x1 x3 := ⟨_, rfl⟩
  replace h := h s28 f29
  refine J_sig f29 ?_
  have n30 : gN s28 = gN s := by rw [f29]; exact n25
  refine J_aload_n C dX10_sets_14 rfl 0 rfl ?_
  refine gf_X10_parts C hs wf_X10_22 dX10_sets_15 ?_
  refine J_iload_n C dX10_sets_18 rfl 1 rfl ?_
  refine J_aload_n C dX10_sets_19 rfl 0 rfl ?_
  refine gf_X10_oldParts C hs wf_X10_37 dX10_sets_20 ?_
  refine J_iload C dX10_sets_23 4 rfl ?_
  obtain ⟨b31, b32, h⟩ := h
  refine J_iald C (dmM hs kc289 (by decide)) (n := 16) (clE_k E s28 kc289) (by decide) b31 b32 dX10_sets_25 (fun g33 => ?_)
  obtain ⟨b34, b35, h⟩ := h
  refine J_iast C (wrM hs kc284 (by decide)) (n := 16) (fun z => clE_k E z kc284) (by decide) b34 b35 g33 dX10_sets_26 ?_
  obtain ⟨s36, f37⟩ : ∃ z : Sg, z = sI s28 284 x1 (gI s28 289 x4) := ⟨_, rfl⟩
  replace h := h s36 f37
  refine J_sig f37 ?_
  have n38 : gN s36 = gN s := by rw [f37]; exact n30
  refine J_aload_n C dX10_sets_27 rfl 0 rfl ?_
  refine gf_X10_one C hs wf_X10_25 dX10_sets_28 ?_
  refine J_iload_n C dX10_sets_31 rfl 1 rfl ?_
  refine J_aload_n C dX10_sets_32 rfl 0 rfl ?_
  refine gf_X10_oldOne C hs wf_X10_40 dX10_sets_33 ?_
  refine J_iload C dX10_sets_36 4 rfl ?_
  obtain ⟨b39, b40, h⟩ := h
  refine J_iald C (dmM hs kc290 (by decide)) (n := 16) (clE_k E s36 kc290) (by decide) b39 b40 dX10_sets_38 (fun g41 => ?_)
  obtain ⟨b42, b43, h⟩ := h
  refine J_iast C (wrM hs kc285 (by decide)) (n := 16) (fun z => clE_k E z kc285) (by decide) b42 b43 g41 dX10_sets_39 ?_
  obtain ⟨s44, f45⟩ : ∃ z : Sg, z = sI s36 285 x1 (gI s36 290 x4) := ⟨_, rfl⟩
  replace h := h s44 f45
  refine J_sig f45 ?_
  have n46 : gN s44 = gN s := by rw [f45]; exact n38
  refine J_aload_n C dX10_sets_40 rfl 0 rfl ?_
  refine gf_X10_two C hs wf_X10_28 dX10_sets_41 ?_
  refine J_iload_n C dX10_sets_44 rfl 1 rfl ?_
  refine J_aload_n C dX10_sets_45 rfl 0 rfl ?_
  refine gf_X10_oldTwo C hs wf_X10_43 dX10_sets_46 ?_
  refine J_iload C dX10_sets_49 4 rfl ?_
  obtain ⟨b47, b48, h⟩ := h
  refine J_iald C (dmM hs kc291 (by decide)) (n := 16) (clE_k E s44 kc291) (by decide) b47 b48 dX10_sets_51 (fun g49 => ?_)
  obtain ⟨b50, b51, h⟩ := h
  refine J_iast C (wrM hs kc286 (by decide)) (n := 16) (fun z => clE_k E z kc286) (by decide) b50 b51 g49 dX10_sets_52 ?_
  obtain ⟨s52, f53⟩ : ∃ z : Sg, z = sI s44 286 x1 (gI s44 291 x4) := ⟨_, rfl⟩
  replace h := h s52 f53
  refine J_sig f53 ?_
  have n54 : gN s52 = gN s := by rw [f53]; exact n46
  exact J_vret C (Nat.zero_le _) (Nat.zero_le _) dX10_sets_53 (by rw [hF]; exact ⟨rfl, h, n54⟩)
set_option maxHeartbeats 4000000 in
set_option maxRecDepth 100000 in
theorem ct_X10_inserts {l : Launch} {E : ET} (hs : eS E = false) {s : Sg} {x1 : Int} (g1 : rgI x1) {x2 : Int} (g2 : rgI x2) {x3 : Int} (g3 : rgI x3) {Q : Sg → Prop} (h : wp_X10_inserts x1 x2 x3 s Q) : MetE l E yX10_inserts cX10_inserts 5 none rm_X10_inserts s [.ref (adE E 279), .int (jI x1), .int (jI x2), .int (jI x3)] (qV Q (gN s)) := by
  refine MetJ (by decide +kernel) (Nat.le_of_ble_eq_true rfl) ?_
  intro F hl C hF
  subst hl
  show JJ F E 0 0 s 0 [(0, .ref (adE E 279)), (1, .int (jI x1)), (2, .int (jI x2)), (3, .int (jI x3))] []
  have j110 : ∀ (x1 : Int) (x2 : Int) (x3 : Int) (x4 : Int) (sj : Sg), wj_X10_inserts_110   x1 x2 x3 x4 sj Q → rgI x1 → rgI x2 → rgI x3 → rgI x4 → gN sj = gN s → JJ F E 0 0 sj 110 [(0, .ref (adE E 279)), (1, .int (jI x1)), (2, .int (jI x2)), (3, .int (jI x3)), (4, .int (jI x4))] [] := by
    intro x1 x2 x3 x4 sj h g1 g2 g3 g4 nj
    refine J_aload_n C dX10_inserts_110 rfl 0 rfl ?_
    refine J_iload C dX10_inserts_111 4 rfl ?_
    refine J_iload_n C dX10_inserts_113 rfl 1 rfl ?_
    refine J_iload_n C dX10_inserts_114 rfl 2 rfl ?_
    refine J_iload_n C dX10_inserts_115 rfl 3 rfl ?_
    refine J_V C (ct_X10_sets hs g4 g1 g2 g3 h) ck_X10_sets wm_X10_87 win_X10_sets wsel_X10_sets (dmM hs kc279 (by decide)) (clE_k E sj kc279) rfl ⟨rfl, rfl⟩ (by decide) (by decide) (As := [.int (jI x4), .int (jI x1), .int (jI x2), .int (jI x3)]) (rest := []) rfl rfl (Nat.le_of_ble_eq_true rfl) dX10_inserts_116 (J_kV (fun s24 h n26 => ?_))
    have n27 : gN s24 = gN s := n26.trans (nj)
    refine J_aload_n C dX10_inserts_119 rfl 0 rfl ?_
    refine J_dup C dX10_inserts_120 rfl ?_
    refine gf_X10_many C hs wf_X10_84 dX10_inserts_121 (fun g28 => ?_)
    refine J_iconst C dX10_inserts_124 ?_
    refine J_iadd C dX10_inserts_125 ?_
    obtain ⟨g31, h⟩ := h
    refine pf_X10_many C hs wf_X10_84 g31 dX10_inserts_126 ?_
    obtain ⟨s29, f30⟩ : ∃ z : Sg, z = sI s24 279 9 ((gI s24 279 9) + 1) := ⟨_, rfl⟩
    replace h := h s29 f30
    refine J_sig f30 ?_
    have n32 : gN s29 = gN s := by rw [f30]; exact n27
    exact J_vret C (Nat.zero_le _) (Nat.zero_le _) dX10_inserts_129 (by rw [hF]; exact ⟨rfl, h, n32⟩)
  refine J_aload_n C dX10_inserts_0 rfl 0 rfl ?_
  refine gf_X10_many C hs wf_X10_84 dX10_inserts_1 (fun g21 => ?_)
  obtain ⟨x4_4, e22⟩ : ∃ v : Int, v = (gI s 279 9) := ⟨_, rfl⟩
  replace h := h x4_4 e22
  have g4_4 : rgI x4_4 := by rw [e22]; exact g21
  refine J_top e22 ?_
  refine J_istore C dX10_inserts_4 (by decide) (lv' := [(4, .int (jI x4_4)), (0, .ref (adE E 279)), (1, .int (jI x1)), (2, .int (jI x2)), (3, .int (jI x3))]) rfl ?_
  replace h := h (fun (x4_6 : Int) (sL6 : Sg) => rgI x4_6 → gN sL6 = gN s → JJ F E 0 0 sL6 6 [(0, .ref (adE E 279)), (1, .int (jI x1)), (2, .int (jI x2)), (3, .int (jI x3)), (4, .int (jI x4_6))] []) (by
    intro x4_6 sL6 h g4_6 nL6
    refine J_iload C dX10_inserts_6 4 rfl ?_
    refine J_if_le C g4_6 (tgt := 110) dX10_inserts_8 (by decide) (fun q78 => ?_) (fun q78 => ?_)
    · replace h := h.1 q78
      exact J_sub [0, 1, 2, 3, 4] rfl (j110 _ _ _ _ _ h g1 g2 g3 g4_6 nL6)
    · replace h := h.2 q78
      refine J_aload_n C dX10_inserts_11 rfl 0 rfl ?_
      refine gf_X10_begins C hs wf_X10_16 dX10_inserts_12 ?_
      refine J_iload C dX10_inserts_15 4 rfl ?_
      refine J_iconst C dX10_inserts_17 ?_
      refine J_isub C dX10_inserts_18 ?_
      obtain ⟨b33, b34, h⟩ := h
      refine J_iald C (dmM hs kc282 (by decide)) (n := 16) (clE_k E sL6 kc282) (by decide) b33 b34 dX10_inserts_19 (fun g35 => ?_)
      refine J_iload_n C dX10_inserts_20 rfl 1 rfl ?_
      refine J_icmp_le C g35 g1 (tgt := 110) dX10_inserts_21 (by decide) (fun q77 => ?_) (fun q77 => ?_)
      · replace h := h.1 q77
        exact J_sub [0, 1, 2, 3, 4] rfl (j110 _ _ _ _ _ h g1 g2 g3 g4_6 nL6)
      · replace h := h.2 q77
        refine J_aload_n C dX10_inserts_24 rfl 0 rfl ?_
        refine gf_X10_begins C hs wf_X10_16 dX10_inserts_25 ?_
        refine J_iload C dX10_inserts_28 4 rfl ?_
        refine J_aload_n C dX10_inserts_30 rfl 0 rfl ?_
        refine gf_X10_begins C hs wf_X10_16 dX10_inserts_31 ?_
        refine J_iload C dX10_inserts_34 4 rfl ?_
        refine J_iconst C dX10_inserts_36 ?_
        refine J_isub C dX10_inserts_37 ?_
        obtain ⟨b36, b37, h⟩ := h
        refine J_iald C (dmM hs kc282 (by decide)) (n := 16) (clE_k E sL6 kc282) (by decide) b36 b37 dX10_inserts_38 (fun g38 => ?_)
        obtain ⟨b39, b40, h⟩ := h
        refine J_iast C (wrM hs kc282 (by decide)) (n := 16) (fun z => clE_k E z kc282) (by decide) b39 b40 g38 dX10_inserts_39 ?_
        obtain ⟨s41, f42⟩ : ∃ z : Sg, z = sI sL6 282 x4_6 (gI sL6 282 (x4_6 - 1)) := ⟨_, rfl⟩
        replace h := h s41 f42
        refine J_sig f42 ?_
        have n43 : gN s41 = gN s := by rw [f42]; exact nL6
        refine J_aload_n C dX10_inserts_40 rfl 0 rfl ?_
        refine gf_X10_ends C hs wf_X10_19 dX10_inserts_41 ?_
        refine J_iload C dX10_inserts_44 4 rfl ?_
        refine J_aload_n C dX10_inserts_46 rfl 0 rfl ?_
        refine gf_X10_ends C hs wf_X10_19 dX10_inserts_47 ?_
        refine J_iload C dX10_inserts_50 4 rfl ?_
        refine J_iconst C dX10_inserts_52 ?_
        refine J_isub C dX10_inserts_53 ?_
        obtain ⟨b44, b45, h⟩ := h
        refine J_iald C (dmM hs kc283 (by decide)) (n := 16) (clE_k E s41 kc283) (by decide) b44 b45 dX10_inserts_54 (fun g46 => ?_)
        obtain ⟨b47, b48, h⟩ := h
        refine J_iast C (wrM hs kc283 (by decide)) (n := 16) (fun z => clE_k E z kc283) (by decide) b47 b48 g46 dX10_inserts_55 ?_
        obtain ⟨s49, f50⟩ : ∃ z : Sg, z = sI s41 283 x4_6 (gI s41 283 (x4_6 - 1)) := ⟨_, rfl⟩
        replace h := h s49 f50
        refine J_sig f50 ?_
        have n51 : gN s49 = gN s := by rw [f50]; exact n43
        refine J_aload_n C dX10_inserts_56 rfl 0 rfl ?_
        refine gf_X10_parts C hs wf_X10_22 dX10_inserts_57 ?_
        refine J_iload C dX10_inserts_60 4 rfl ?_
        refine J_aload_n C dX10_inserts_62 rfl 0 rfl ?_
        refine gf_X10_parts C hs wf_X10_22 dX10_inserts_63 ?_
        refine J_iload C dX10_inserts_66 4 rfl ?_
        refine J_iconst C dX10_inserts_68 ?_
        refine J_isub C dX10_inserts_69 ?_
        obtain ⟨b52, b53, h⟩ := h
        refine J_iald C (dmM hs kc284 (by decide)) (n := 16) (clE_k E s49 kc284) (by decide) b52 b53 dX10_inserts_70 (fun g54 => ?_)
        obtain ⟨b55, b56, h⟩ := h
        refine J_iast C (wrM hs kc284 (by decide)) (n := 16) (fun z => clE_k E z kc284) (by decide) b55 b56 g54 dX10_inserts_71 ?_
        obtain ⟨s57, f58⟩ : ∃ z : Sg, z = sI s49 284 x4_6 (gI s49 284 (x4_6 - 1)) := ⟨_, rfl⟩
        replace h := h s57 f58
        refine J_sig f58 ?_
        have n59 : gN s57 = gN s := by rw [f58]; exact n51
        refine J_aload_n C dX10_inserts_72 rfl 0 rfl ?_
        refine gf_X10_one C hs wf_X10_25 dX10_inserts_73 ?_
        refine J_iload C dX10_inserts_76 4 rfl ?_
        refine J_aload_n C dX10_inserts_78 rfl 0 rfl ?_
        refine gf_X10_one C hs wf_X10_25 dX10_inserts_79 ?_
        refine J_iload C dX10_inserts_82 4 rfl ?_
        refine J_iconst C dX10_inserts_84 ?_
        refine J_isub C dX10_inserts_85 ?_
        obtain ⟨b60, b61, h⟩ := h
        refine J_iald C (dmM hs kc285 (by decide)) (n := 16) (clE_k E s57 kc285) (by decide) b60 b61 dX10_inserts_86 (fun g62 => ?_)
        obtain ⟨b63, b64, h⟩ := h
        refine J_iast C (wrM hs kc285 (by decide)) (n := 16) (fun z => clE_k E z kc285) (by decide) b63 b64 g62 dX10_inserts_87 ?_
        obtain ⟨s65, f66⟩ : ∃ z : Sg, z = sI s57 285 x4_6 (gI s57 285 (x4_6 - 1)) := ⟨_, rfl⟩
        replace h := h s65 f66
        refine J_sig f66 ?_
        have n67 : gN s65 = gN s := by rw [f66]; exact n59
        refine J_aload_n C dX10_inserts_88 rfl 0 rfl ?_
        refine gf_X10_two C hs wf_X10_28 dX10_inserts_89 ?_
        refine J_iload C dX10_inserts_92 4 rfl ?_
        refine J_aload_n C dX10_inserts_94 rfl 0 rfl ?_
        refine gf_X10_two C hs wf_X10_28 dX10_inserts_95 ?_
        refine J_iload C dX10_inserts_98 4 rfl ?_
        refine J_iconst C dX10_inserts_100 ?_
        refine J_isub C dX10_inserts_101 ?_
        obtain ⟨b68, b69, h⟩ := h
        refine J_iald C (dmM hs kc286 (by decide)) (n := 16) (clE_k E s65 kc286) (by decide) b68 b69 dX10_inserts_102 (fun g70 => ?_)
        obtain ⟨b71, b72, h⟩ := h
        refine J_iast C (wrM hs kc286 (by decide)) (n := 16) (fun z => clE_k E z kc286) (by decide) b71 b72 g70 dX10_inserts_103 ?_
        obtain ⟨s73, f74⟩ : ∃ z : Sg, z = sI s65 286 x4_6 (gI s65 286 (x4_6 - 1)) := ⟨_, rfl⟩
        replace h := h s73 f74
        refine J_sig f74 ?_
        have n75 : gN s73 = gN s := by rw [f74]; exact n67
        refine J_iinc C dX10_inserts_104 4 rfl (by decide) (lv' := [(4, .int (jI (x4_6 + (-1)))), (0, .ref (adE E 279)), (1, .int (jI x1)), (2, .int (jI x2)), (3, .int (jI x3))]) rfl ?_
        refine J_goto C (tgt := 6) dX10_inserts_107 (by decide) ?_
        obtain ⟨g76, h⟩ := h
        exact J_sub [1, 2, 3, 4, 0] rfl (h g76 n75)
  )
  exact J_sub [1, 2, 3, 4, 0] rfl (h g4_4 rfl)
set_option maxHeartbeats 4000000 in
set_option maxRecDepth 100000 in
theorem ct_X10_lays {l : Launch} {E : ET} (hs : eS E = false) {s : Sg} {Q : Sg → Prop} (h : wp_X10_lays s Q) : MetE l E yX10_lays cX10_lays 3 none rm_X10_lays s [.ref (adE E 279)] (qV Q (gN s)) := by
  refine MetJ (by decide +kernel) (Nat.le_of_ble_eq_true rfl) ?_
  intro F hl C hF
  subst hl
  show JJ F E 0 0 s 0 [(0, .ref (adE E 279))] []
  refine J_iconst C dX10_lays_0 ?_
  refine J_istore_n C dX10_lays_1 rfl (by decide) (lv' := [(1, .int (jI 0)), (0, .ref (adE E 279))]) rfl ?_
  replace h := h (fun (x1_2 : Int) (sL2 : Sg) => rgI x1_2 → gN sL2 = gN s → JJ F E 0 0 sL2 2 [(0, .ref (adE E 279)), (1, .int (jI x1_2))] []) (by
    intro x1_2 sL2 h g1_2 nL2
    refine J_iload_n C dX10_lays_2 rfl 1 rfl ?_
    refine J_bipush C dX10_lays_3 (by decide) ?_
    refine J_icmp_ge C g1_2 (rgN 32 (by decide)) (tgt := 51) dX10_lays_5 (by decide) (fun q115 => ?_) (fun q115 => ?_)
    · replace h := h.1 q115
      refine J_aload_n C dX10_lays_51 rfl 0 rfl ?_
      refine gf_X10_page C hs wf_X10_7 dX10_lays_52 ?_
      refine J_bipush C dX10_lays_55 (by decide) ?_
      refine J_aload_n C dX10_lays_57 rfl 0 rfl ?_
      refine gf_X10_many C hs wf_X10_84 dX10_lays_58 (fun g21 => ?_)
      obtain ⟨b22, b23, h⟩ := h
      refine J_iast C (wrM hs kc280 (by decide)) (n := 12960) (fun z => clE_k E z kc280) (by decide) b22 b23 g21 dX10_lays_61 ?_
      obtain ⟨s24, f25⟩ : ∃ z : Sg, z = sI sL2 280 42 (gI sL2 279 9) := ⟨_, rfl⟩
      replace h := h s24 f25
      refine J_sig f25 ?_
      have n26 : gN s24 = gN s := by rw [f25]; exact nL2
      refine J_iconst C dX10_lays_62 ?_
      refine J_istore_n C dX10_lays_63 rfl (by decide) (lv' := [(1, .int (jI 0)), (0, .ref (adE E 279))]) rfl ?_
      replace h := h (fun (x1_64 : Int) (sL64 : Sg) => rgI x1_64 → gN sL64 = gN s → JJ F E 0 0 sL64 64 [(0, .ref (adE E 279)), (1, .int (jI x1_64))] []) (by
        intro x1_64 sL64 h g1_64 nL64
        refine J_iload_n C dX10_lays_64 rfl 1 rfl ?_
        refine J_aload_n C dX10_lays_65 rfl 0 rfl ?_
        refine gf_X10_many C hs wf_X10_84 dX10_lays_66 (fun g27 => ?_)
        refine J_icmp_ge C g1_64 g27 (tgt := 206) dX10_lays_69 (by decide) (fun q99 => ?_) (fun q99 => ?_)
        · replace h := h.1 q99
          exact J_vret C (Nat.zero_le _) (Nat.zero_le _) dX10_lays_206 (by rw [hF]; exact ⟨rfl, h, nL64⟩)
        · replace h := h.2 q99
          refine J_aload_n C dX10_lays_72 rfl 0 rfl ?_
          refine gf_X10_page C hs wf_X10_7 dX10_lays_73 ?_
          refine J_aload_n C dX10_lays_76 rfl 0 rfl ?_
          refine J_iload_n C dX10_lays_77 rfl 1 rfl ?_
          refine J_V C (ct_X10_at hs g1_64 h) ck_X10_at wm_X10_81 win_X10_at wsel_X10_at (dmM hs kc279 (by decide)) (clE_k E sL64 kc279) rfl ⟨rfl, rfl⟩ (by decide) (by decide) (As := [.int (jI x1_64)]) (rest := [.ref (adE E 280)]) rfl rfl (Nat.le_of_ble_eq_true rfl) dX10_lays_78 (J_pI (fun v28 g30 h => ?_))
          refine J_aload_n C dX10_lays_81 rfl 0 rfl ?_
          refine gf_X10_begins C hs wf_X10_16 dX10_lays_82 ?_
          refine J_iload_n C dX10_lays_85 rfl 1 rfl ?_
          obtain ⟨b32, b33, h⟩ := h
          refine J_iald C (dmM hs kc282 (by decide)) (n := 16) (clE_k E sL64 kc282) (by decide) b32 b33 dX10_lays_86 (fun g34 => ?_)
          obtain ⟨b35, b36, h⟩ := h
          refine J_iast C (wrM hs kc280 (by decide)) (n := 12960) (fun z => clE_k E z kc280) (by decide) b35 b36 g34 dX10_lays_87 ?_
          obtain ⟨s37, f38⟩ : ∃ z : Sg, z = sI sL64 280 v28 (gI sL64 282 x1_64) := ⟨_, rfl⟩
          replace h := h s37 f38
          refine J_sig f38 ?_
          have n39 : gN s37 = gN s := by rw [f38]; exact nL64
          refine J_aload_n C dX10_lays_88 rfl 0 rfl ?_
          refine gf_X10_page C hs wf_X10_7 dX10_lays_89 ?_
          refine J_aload_n C dX10_lays_92 rfl 0 rfl ?_
          refine J_iload_n C dX10_lays_93 rfl 1 rfl ?_
          refine J_V C (ct_X10_at hs g1_64 h) ck_X10_at wm_X10_81 win_X10_at wsel_X10_at (dmM hs kc279 (by decide)) (clE_k E s37 kc279) rfl ⟨rfl, rfl⟩ (by decide) (by decide) (As := [.int (jI x1_64)]) (rest := [.ref (adE E 280)]) rfl rfl (Nat.le_of_ble_eq_true rfl) dX10_lays_94 (J_pI (fun v40 g42 h => ?_))
          refine J_iconst C dX10_lays_97 ?_
          refine J_iadd C dX10_lays_98 ?_
          refine J_aload_n C dX10_lays_99 rfl 0 rfl ?_
          refine gf_X10_ends C hs wf_X10_19 dX10_lays_100 ?_
          refine J_iload_n C dX10_lays_103 rfl 1 rfl ?_
          obtain ⟨b44, b45, h⟩ := h
          refine J_iald C (dmM hs kc283 (by decide)) (n := 16) (clE_k E s37 kc283) (by decide) b44 b45 dX10_lays_104 (fun g46 => ?_)
          obtain ⟨b47, b48, h⟩ := h
          refine J_iast C (wrM hs kc280 (by decide)) (n := 12960) (fun z => clE_k E z kc280) (by decide) b47 b48 g46 dX10_lays_105 ?_
          obtain ⟨s49, f50⟩ : ∃ z : Sg, z = sI s37 280 (v40 + 1) (gI s37 283 x1_64) := ⟨_, rfl⟩
          replace h := h s49 f50
          refine J_sig f50 ?_
          have n51 : gN s49 = gN s := by rw [f50]; exact n39
          refine J_aload_n C dX10_lays_106 rfl 0 rfl ?_
          refine gf_X10_page C hs wf_X10_7 dX10_lays_107 ?_
          refine J_aload_n C dX10_lays_110 rfl 0 rfl ?_
          refine J_iload_n C dX10_lays_111 rfl 1 rfl ?_
          refine J_V C (ct_X10_at hs g1_64 h) ck_X10_at wm_X10_81 win_X10_at wsel_X10_at (dmM hs kc279 (by decide)) (clE_k E s49 kc279) rfl ⟨rfl, rfl⟩ (by decide) (by decide) (As := [.int (jI x1_64)]) (rest := [.ref (adE E 280)]) rfl rfl (Nat.le_of_ble_eq_true rfl) dX10_lays_112 (J_pI (fun v52 g54 h => ?_))
          refine J_iconst C dX10_lays_115 ?_
          refine J_iadd C dX10_lays_116 ?_
          refine J_aload_n C dX10_lays_117 rfl 0 rfl ?_
          refine gf_X10_parts C hs wf_X10_22 dX10_lays_118 ?_
          refine J_iload_n C dX10_lays_121 rfl 1 rfl ?_
          obtain ⟨b56, b57, h⟩ := h
          refine J_iald C (dmM hs kc284 (by decide)) (n := 16) (clE_k E s49 kc284) (by decide) b56 b57 dX10_lays_122 (fun g58 => ?_)
          obtain ⟨b59, b60, h⟩ := h
          refine J_iast C (wrM hs kc280 (by decide)) (n := 12960) (fun z => clE_k E z kc280) (by decide) b59 b60 g58 dX10_lays_123 ?_
          obtain ⟨s61, f62⟩ : ∃ z : Sg, z = sI s49 280 (v52 + 2) (gI s49 284 x1_64) := ⟨_, rfl⟩
          replace h := h s61 f62
          refine J_sig f62 ?_
          have n63 : gN s61 = gN s := by rw [f62]; exact n51
          refine J_iconst C dX10_lays_124 ?_
          refine J_istore_n C dX10_lays_125 rfl (by decide) (lv' := [(2, .int (jI 0)), (0, .ref (adE E 279)), (1, .int (jI x1_64))]) rfl ?_
          replace h := h (fun (x2_126 : Int) (sL126 : Sg) => rgI x2_126 → gN sL126 = gN s → JJ F E 0 0 sL126 126 [(0, .ref (adE E 279)), (1, .int (jI x1_64)), (2, .int (jI x2_126))] []) (by
            intro x2_126 sL126 h g2_126 nL126
            refine J_iload_n C dX10_lays_126 rfl 2 rfl ?_
            refine J_bipush C dX10_lays_127 (by decide) ?_
            refine J_icmp_ge C g2_126 (rgN 42 (by decide)) (tgt := 200) dX10_lays_129 (by decide) (fun q98 => ?_) (fun q98 => ?_)
            · replace h := h.1 q98
              refine J_iinc C dX10_lays_200 1 rfl (by decide) (lv' := [(1, .int (jI (x1_64 + 1))), (0, .ref (adE E 279)), (2, .int (jI x2_126))]) rfl ?_
              refine J_goto C (tgt := 64) dX10_lays_203 (by decide) ?_
              obtain ⟨g64, h⟩ := h
              exact J_sub [1, 0] rfl (h g64 nL126)
            · replace h := h.2 q98
              refine J_aload_n C dX10_lays_132 rfl 0 rfl ?_
              refine gf_X10_page C hs wf_X10_7 dX10_lays_133 ?_
              refine J_aload_n C dX10_lays_136 rfl 0 rfl ?_
              refine J_iconst C dX10_lays_137 ?_
              refine J_iload_n C dX10_lays_138 rfl 1 rfl ?_
              refine J_imul C dX10_lays_139 ?_
              obtain ⟨g65, h⟩ := h
              refine J_V C (ct_X10_partAt hs g65 h) ck_X10_partAt wm_X10_91 win_X10_partAt wsel_X10_partAt (dmM hs kc279 (by decide)) (clE_k E sL126 kc279) rfl ⟨rfl, rfl⟩ (by decide) (by decide) (As := [.int (jI (2 * x1_64))]) (rest := [.ref (adE E 280)]) rfl rfl (Nat.le_of_ble_eq_true rfl) dX10_lays_140 (J_pI (fun v66 g68 h => ?_))
              refine J_iload_n C dX10_lays_143 rfl 2 rfl ?_
              refine J_iadd C dX10_lays_144 ?_
              refine J_aload_n C dX10_lays_145 rfl 0 rfl ?_
              refine gf_X10_texts C hs wf_X10_46 dX10_lays_146 ?_
              refine J_bipush C dX10_lays_149 (by decide) ?_
              refine J_aload_n C dX10_lays_151 rfl 0 rfl ?_
              refine gf_X10_one C hs wf_X10_25 dX10_lays_152 ?_
              refine J_iload_n C dX10_lays_155 rfl 1 rfl ?_
              obtain ⟨b70, b71, h⟩ := h
              refine J_iald C (dmM hs kc285 (by decide)) (n := 16) (clE_k E sL126 kc285) (by decide) b70 b71 dX10_lays_156 (fun g72 => ?_)
              refine J_imul C dX10_lays_157 ?_
              refine J_iload_n C dX10_lays_158 rfl 2 rfl ?_
              refine J_iadd C dX10_lays_159 ?_
              obtain ⟨b73, b74, h⟩ := h
              refine J_iald C (dmM hs kc292 (by decide)) (n := 1344) (clE_k E sL126 kc292) (by decide) b73 b74 dX10_lays_160 (fun g75 => ?_)
              obtain ⟨b76, b77, h⟩ := h
              refine J_iast C (wrM hs kc280 (by decide)) (n := 12960) (fun z => clE_k E z kc280) (by decide) b76 b77 g75 dX10_lays_161 ?_
              obtain ⟨s78, f79⟩ : ∃ z : Sg, z = sI sL126 280 (v66 + x2_126) (gI sL126 292 ((42 * (gI sL126 285 x1_64)) + x2_126)) := ⟨_, rfl⟩
              replace h := h s78 f79
              refine J_sig f79 ?_
              have n80 : gN s78 = gN s := by rw [f79]; exact nL126
              refine J_aload_n C dX10_lays_162 rfl 0 rfl ?_
              refine gf_X10_page C hs wf_X10_7 dX10_lays_163 ?_
              refine J_aload_n C dX10_lays_166 rfl 0 rfl ?_
              refine J_iconst C dX10_lays_167 ?_
              refine J_iload_n C dX10_lays_168 rfl 1 rfl ?_
              refine J_imul C dX10_lays_169 ?_
              refine J_iconst C dX10_lays_170 ?_
              refine J_iadd C dX10_lays_171 ?_
              obtain ⟨g81, h⟩ := h
              refine J_V C (ct_X10_partAt hs g81 h) ck_X10_partAt wm_X10_91 win_X10_partAt wsel_X10_partAt (dmM hs kc279 (by decide)) (clE_k E s78 kc279) rfl ⟨rfl, rfl⟩ (by decide) (by decide) (As := [.int (jI ((2 * x1_64) + 1))]) (rest := [.ref (adE E 280)]) rfl rfl (Nat.le_of_ble_eq_true rfl) dX10_lays_172 (J_pI (fun v82 g84 h => ?_))
              refine J_iload_n C dX10_lays_175 rfl 2 rfl ?_
              refine J_iadd C dX10_lays_176 ?_
              refine J_aload_n C dX10_lays_177 rfl 0 rfl ?_
              refine gf_X10_texts C hs wf_X10_46 dX10_lays_178 ?_
              refine J_bipush C dX10_lays_181 (by decide) ?_
              refine J_aload_n C dX10_lays_183 rfl 0 rfl ?_
              refine gf_X10_two C hs wf_X10_28 dX10_lays_184 ?_
              refine J_iload_n C dX10_lays_187 rfl 1 rfl ?_
              obtain ⟨b86, b87, h⟩ := h
              refine J_iald C (dmM hs kc286 (by decide)) (n := 16) (clE_k E s78 kc286) (by decide) b86 b87 dX10_lays_188 (fun g88 => ?_)
              refine J_imul C dX10_lays_189 ?_
              refine J_iload_n C dX10_lays_190 rfl 2 rfl ?_
              refine J_iadd C dX10_lays_191 ?_
              obtain ⟨b89, b90, h⟩ := h
              refine J_iald C (dmM hs kc292 (by decide)) (n := 1344) (clE_k E s78 kc292) (by decide) b89 b90 dX10_lays_192 (fun g91 => ?_)
              obtain ⟨b92, b93, h⟩ := h
              refine J_iast C (wrM hs kc280 (by decide)) (n := 12960) (fun z => clE_k E z kc280) (by decide) b92 b93 g91 dX10_lays_193 ?_
              obtain ⟨s94, f95⟩ : ∃ z : Sg, z = sI s78 280 (v82 + x2_126) (gI s78 292 ((42 * (gI s78 286 x1_64)) + x2_126)) := ⟨_, rfl⟩
              replace h := h s94 f95
              refine J_sig f95 ?_
              have n96 : gN s94 = gN s := by rw [f95]; exact n80
              refine J_iinc C dX10_lays_194 2 rfl (by decide) (lv' := [(2, .int (jI (x2_126 + 1))), (0, .ref (adE E 279)), (1, .int (jI x1_64))]) rfl ?_
              refine J_goto C (tgt := 126) dX10_lays_197 (by decide) ?_
              obtain ⟨g97, h⟩ := h
              exact J_sub [1, 2, 0] rfl (h g97 n96)
          )
          exact J_sub [1, 2, 0] rfl (h (rgN 0 (by decide)) n63)
      )
      exact J_sub [1, 0] rfl (h (rgN 0 (by decide)) n26)
    · replace h := h.2 q115
      refine J_iconst C dX10_lays_8 ?_
      refine J_istore_n C dX10_lays_9 rfl (by decide) (lv' := [(2, .int (jI 0)), (0, .ref (adE E 279)), (1, .int (jI x1_2))]) rfl ?_
      replace h := h (fun (x2_10 : Int) (sL10 : Sg) => rgI x2_10 → gN sL10 = gN s → JJ F E 0 0 sL10 10 [(0, .ref (adE E 279)), (1, .int (jI x1_2)), (2, .int (jI x2_10))] []) (by
        intro x2_10 sL10 h g2_10 nL10
        refine J_iload_n C dX10_lays_10 rfl 2 rfl ?_
        refine J_bipush C dX10_lays_11 (by decide) ?_
        refine J_icmp_ge C g2_10 (rgN 42 (by decide)) (tgt := 45) dX10_lays_13 (by decide) (fun q114 => ?_) (fun q114 => ?_)
        · replace h := h.1 q114
          refine J_iinc C dX10_lays_45 1 rfl (by decide) (lv' := [(1, .int (jI (x1_2 + 1))), (0, .ref (adE E 279)), (2, .int (jI x2_10))]) rfl ?_
          refine J_goto C (tgt := 2) dX10_lays_48 (by decide) ?_
          obtain ⟨g100, h⟩ := h
          exact J_sub [1, 0] rfl (h g100 nL10)
        · replace h := h.2 q114
          refine J_aload_n C dX10_lays_16 rfl 0 rfl ?_
          refine gf_X10_texts C hs wf_X10_46 dX10_lays_17 ?_
          refine J_bipush C dX10_lays_20 (by decide) ?_
          refine J_iload_n C dX10_lays_22 rfl 1 rfl ?_
          refine J_imul C dX10_lays_23 ?_
          refine J_iload_n C dX10_lays_24 rfl 2 rfl ?_
          refine J_iadd C dX10_lays_25 ?_
          refine J_aload_n C dX10_lays_26 rfl 0 rfl ?_
          refine gf_X10_page C hs wf_X10_7 dX10_lays_27 ?_
          refine J_aload_n C dX10_lays_30 rfl 0 rfl ?_
          refine J_iload_n C dX10_lays_31 rfl 1 rfl ?_
          refine J_V C (ct_X10_partAt hs g1_2 h) ck_X10_partAt wm_X10_91 win_X10_partAt wsel_X10_partAt (dmM hs kc279 (by decide)) (clE_k E sL10 kc279) rfl ⟨rfl, rfl⟩ (by decide) (by decide) (As := [.int (jI x1_2)]) (rest := [.ref (adE E 280), .int (jI ((42 * x1_2) + x2_10)), .ref (adE E 292)]) rfl rfl (Nat.le_of_ble_eq_true rfl) dX10_lays_32 (J_pI (fun v101 g103 h => ?_))
          refine J_iload_n C dX10_lays_35 rfl 2 rfl ?_
          refine J_iadd C dX10_lays_36 ?_
          obtain ⟨b105, b106, h⟩ := h
          refine J_iald C (dmM hs kc280 (by decide)) (n := 12960) (clE_k E sL10 kc280) (by decide) b105 b106 dX10_lays_37 (fun g107 => ?_)
          obtain ⟨b108, b109, h⟩ := h
          refine J_iast C (wrM hs kc292 (by decide)) (n := 1344) (fun z => clE_k E z kc292) (by decide) b108 b109 g107 dX10_lays_38 ?_
          obtain ⟨s110, f111⟩ : ∃ z : Sg, z = sI sL10 292 ((42 * x1_2) + x2_10) (gI sL10 280 (v101 + x2_10)) := ⟨_, rfl⟩
          replace h := h s110 f111
          refine J_sig f111 ?_
          have n112 : gN s110 = gN s := by rw [f111]; exact nL10
          refine J_iinc C dX10_lays_39 2 rfl (by decide) (lv' := [(2, .int (jI (x2_10 + 1))), (0, .ref (adE E 279)), (1, .int (jI x1_2))]) rfl ?_
          refine J_goto C (tgt := 10) dX10_lays_42 (by decide) ?_
          obtain ⟨g113, h⟩ := h
          exact J_sub [1, 2, 0] rfl (h g113 n112)
      )
      exact J_sub [1, 2, 0] rfl (h (rgN 0 (by decide)) nL2)
  )
  exact J_sub [1, 0] rfl (h (rgN 0 (by decide)) rfl)
set_option maxHeartbeats 4000000 in
set_option maxRecDepth 100000 in
theorem ct_X10_byteOf {l : Launch} {E : ET} (hs : eS E = false) {s : Sg} {x1 : Int} (g1 : rgI x1) {x2 : Int} (g2 : rgI x2) {Q : Int → Prop} (h : wp_X10_byteOf x1 x2 s Q) : MetE l E yX10_byteOf cX10_byteOf 3 (some .int) rm_X10_byteOf s [.ref (adE E 279), .int (jI x1), .int (jI x2)] (qI (fun r t => Q r ∧ t = s) (gN s)) := by
  refine MetJ (by decide +kernel) (Nat.le_of_ble_eq_true rfl) ?_
  intro F hl C hF
  subst hl
  show JJ F E 0 0 s 0 [(0, .ref (adE E 279)), (1, .int (jI x1)), (2, .int (jI x2))] []
  refine J_aload_n C dX10_byteOf_0 rfl 0 rfl ?_
  refine gf_X10_page C hs wf_X10_7 dX10_byteOf_1 ?_
  refine J_aload_n C dX10_byteOf_4 rfl 0 rfl ?_
  refine J_iload_n C dX10_byteOf_5 rfl 1 rfl ?_
  refine J_V C (ct_X10_partAt hs g1 h) ck_X10_partAt wm_X10_91 win_X10_partAt wsel_X10_partAt (dmM hs kc279 (by decide)) (clE_k E s kc279) rfl ⟨rfl, rfl⟩ (by decide) (by decide) (As := [.int (jI x1)]) (rest := [.ref (adE E 280)]) rfl rfl (Nat.le_of_ble_eq_true rfl) dX10_byteOf_6 (J_pI (fun v21 g23 h => ?_))
  refine J_iconst C dX10_byteOf_9 ?_
  refine J_iadd C dX10_byteOf_10 ?_
  refine J_iload_n C dX10_byteOf_11 rfl 2 rfl ?_
  refine J_iadd C dX10_byteOf_12 ?_
  obtain ⟨b25, b26, h⟩ := h
  refine J_iald C (dmM hs kc280 (by decide)) (n := 12960) (clE_k E s kc280) (by decide) b25 b26 dX10_byteOf_13 (fun g27 => ?_)
  exact J_iret C (Nat.zero_le _) (Nat.zero_le _) dX10_byteOf_14 (by rw [hF]; exact ⟨_, rfl, g27, ⟨h, rfl⟩, rfl⟩)
set_option maxHeartbeats 4000000 in
set_option maxRecDepth 100000 in
theorem ct_X10_longOf {l : Launch} {E : ET} (hs : eS E = false) {s : Sg} {x1 : Int} (g1 : rgI x1) {Q : Int → Prop} (h : wp_X10_longOf x1 s Q) : MetE l E yX10_longOf cX10_longOf 2 (some .int) rm_X10_longOf s [.ref (adE E 279), .int (jI x1)] (qI (fun r t => Q r ∧ t = s) (gN s)) := by
  refine MetJ (by decide +kernel) (Nat.le_of_ble_eq_true rfl) ?_
  intro F hl C hF
  subst hl
  show JJ F E 0 0 s 0 [(0, .ref (adE E 279)), (1, .int (jI x1))] []
  refine J_aload_n C dX10_longOf_0 rfl 0 rfl ?_
  refine gf_X10_page C hs wf_X10_7 dX10_longOf_1 ?_
  refine J_aload_n C dX10_longOf_4 rfl 0 rfl ?_
  refine J_iload_n C dX10_longOf_5 rfl 1 rfl ?_
  refine J_V C (ct_X10_partAt hs g1 h) ck_X10_partAt wm_X10_91 win_X10_partAt wsel_X10_partAt (dmM hs kc279 (by decide)) (clE_k E s kc279) rfl ⟨rfl, rfl⟩ (by decide) (by decide) (As := [.int (jI x1)]) (rest := [.ref (adE E 280)]) rfl rfl (Nat.le_of_ble_eq_true rfl) dX10_longOf_6 (J_pI (fun v21 g23 h => ?_))
  refine J_iconst C dX10_longOf_9 ?_
  refine J_iadd C dX10_longOf_10 ?_
  obtain ⟨b25, b26, h⟩ := h
  refine J_iald C (dmM hs kc280 (by decide)) (n := 12960) (clE_k E s kc280) (by decide) b25 b26 dX10_longOf_11 (fun g27 => ?_)
  exact J_iret C (Nat.zero_le _) (Nat.zero_le _) dX10_longOf_12 (by rw [hF]; exact ⟨_, rfl, g27, ⟨h, rfl⟩, rfl⟩)
set_option maxHeartbeats 4000000 in
set_option maxRecDepth 100000 in
theorem ct_X10_isWord {l : Launch} {E : ET} (hs : eS E = false) {s : Sg} {x1 : Int} (g1 : rgI x1) {x2 : Int} (g2 : rgI x2) {x3 : Int} (g3 : rgI x3) {x4 : Int} (g4 : rgI x4) {x5 : Int} (g5 : rgI x5) {Q : Int → Prop} (h : wp_X10_isWord x1 x2 x3 x4 x5 s Q) : MetE l E yX10_isWord cX10_isWord 8 (some .boolean) rm_X10_isWord s [.ref (adE E 279), .int (jI x1), .int (jI x2), .int (jI x3), .int (jI x4), .int (jI x5)] (qZ (fun r t => Q r ∧ t = s) (gN s)) := by
  refine MetJ (by decide +kernel) (Nat.le_of_ble_eq_true rfl) ?_
  intro F hl C hF
  subst hl
  show JJ F E 0 0 s 0 [(0, .ref (adE E 279)), (1, .int (jI x1)), (2, .int (jI x2)), (3, .int (jI x3)), (4, .int (jI x4)), (5, .int (jI x5))] []
  have j70 : ∀ (x1 : Int) (x2 : Int) (x6 : Int) (t0 : Int), wj_X10_isWord_70   x1 x2 x6 t0 s Q → rgI x1 → rgI x2 → rgI x6 → rgI t0 → JJ F E 0 0 s 70 [(0, .ref (adE E 279)), (1, .int (jI x1)), (2, .int (jI x2)), (6, .int (jI x6))] [.int (jI t0)] := by
    intro x1 x2 x6 t0 h g1 g2 g6 gt0
    refine J_istore C dX10_isWord_70 (by decide) (lv' := [(7, .int (jI t0)), (0, .ref (adE E 279)), (1, .int (jI x1)), (2, .int (jI x2)), (6, .int (jI x6))]) rfl ?_
    refine J_iload C dX10_isWord_72 0 rfl ?_
    refine J_if_eq C gt0 (tgt := 107) dX10_isWord_74 (by decide) (fun q38 => ?_) (fun q38 => ?_)
    · replace h := h.1 q38
      refine J_iconst C dX10_isWord_107 ?_
      exact J_zret C (Nat.zero_le _) (Nat.zero_le _) (nar_z (Or.inl rfl)) dX10_isWord_108 (by rw [hF]; exact ⟨_, rfl, (Or.inl rfl), ⟨h, rfl⟩, rfl⟩)
    · replace h := h.2 q38
      refine J_iload_n C dX10_isWord_77 rfl 3 rfl ?_
      refine J_iload C dX10_isWord_78 4 rfl ?_
      refine J_iadd C dX10_isWord_80 ?_
      refine J_aload_n C dX10_isWord_81 rfl 1 rfl ?_
      refine J_iload_n C dX10_isWord_82 rfl 2 rfl ?_
      refine J_V C (ct_X10_longOf hs g1 h) ck_X10_longOf wm_X10_94 win_X10_longOf wsel_X10_longOf (dmM hs kc279 (by decide)) (clE_k E s kc279) rfl ⟨rfl, rfl⟩ (by decide) (by decide) (As := [.int (jI x1)]) (rest := [.int (jI (x2 + x6))]) rfl rfl (Nat.le_of_ble_eq_true rfl) dX10_isWord_83 (J_pI (fun v26 g28 h => ?_))
      obtain ⟨g30, h⟩ := h
      refine J_icmp_eq C g30 g28 (tgt := 103) dX10_isWord_86 (by decide) (fun q37 => ?_) (fun q37 => ?_)
      · replace h := h.1 q37
        refine J_iconst C dX10_isWord_103 ?_
        refine J_goto C (tgt := 108) dX10_isWord_104 (by decide) ?_
        exact J_zret C (Nat.zero_le _) (Nat.zero_le _) (nar_z (Or.inr rfl)) dX10_isWord_108 (by rw [hF]; exact ⟨_, rfl, (Or.inr rfl), ⟨h, rfl⟩, rfl⟩)
      · replace h := h.2 q37
        refine J_aload_n C dX10_isWord_89 rfl 1 rfl ?_
        refine J_iload_n C dX10_isWord_90 rfl 2 rfl ?_
        refine J_iload_n C dX10_isWord_91 rfl 3 rfl ?_
        refine J_iload C dX10_isWord_92 4 rfl ?_
        refine J_iadd C dX10_isWord_94 ?_
        obtain ⟨g31, h⟩ := h
        refine J_V C (ct_X10_byteOf hs g1 g31 h) ck_X10_byteOf wm_X10_97 win_X10_byteOf wsel_X10_byteOf (dmM hs kc279 (by decide)) (clE_k E s kc279) rfl ⟨rfl, rfl⟩ (by decide) (by decide) (As := [.int (jI x1), .int (jI (x2 + x6))]) (rest := []) rfl rfl (Nat.le_of_ble_eq_true rfl) dX10_isWord_95 (J_pI (fun v32 g34 h => ?_))
        refine J_bipush C dX10_isWord_98 (by decide) ?_
        refine J_icmp_ne C g34 (rgN 32 (by decide)) (tgt := 107) dX10_isWord_100 (by decide) (fun q36 => ?_) (fun q36 => ?_)
        · replace h := h.2 q36
          refine J_iconst C dX10_isWord_107 ?_
          exact J_zret C (Nat.zero_le _) (Nat.zero_le _) (nar_z (Or.inl rfl)) dX10_isWord_108 (by rw [hF]; exact ⟨_, rfl, (Or.inl rfl), ⟨h, rfl⟩, rfl⟩)
        · replace h := h.1 q36
          refine J_iconst C dX10_isWord_103 ?_
          refine J_goto C (tgt := 108) dX10_isWord_104 (by decide) ?_
          exact J_zret C (Nat.zero_le _) (Nat.zero_le _) (nar_z (Or.inr rfl)) dX10_isWord_108 (by rw [hF]; exact ⟨_, rfl, (Or.inr rfl), ⟨h, rfl⟩, rfl⟩)
  have j69 : ∀ (x1 : Int) (x2 : Int) (x6 : Int), wj_X10_isWord_69   x1 x2 x6 s Q → rgI x1 → rgI x2 → rgI x6 → JJ F E 0 0 s 69 [(0, .ref (adE E 279)), (1, .int (jI x1)), (2, .int (jI x2)), (6, .int (jI x6))] [] := by
    intro x1 x2 x6 h g1 g2 g6
    refine J_iconst C dX10_isWord_69 ?_
    exact J_sub [0, 1, 2, 3] rfl (j70 _ _ _ _ h g1 g2 g6 (rgN 0 (by decide)))
  have j65 : ∀ (x1 : Int) (x2 : Int) (x6 : Int), wj_X10_isWord_65   x1 x2 x6 s Q → rgI x1 → rgI x2 → rgI x6 → JJ F E 0 0 s 65 [(0, .ref (adE E 279)), (1, .int (jI x1)), (2, .int (jI x2)), (6, .int (jI x6))] [] := by
    intro x1 x2 x6 h g1 g2 g6
    refine J_iconst C dX10_isWord_65 ?_
    refine J_goto C (tgt := 70) dX10_isWord_66 (by decide) ?_
    exact J_sub [0, 1, 2, 3] rfl (j70 _ _ _ _ h g1 g2 g6 (rgN 1 (by decide)))
  have j10 : ∀ (x1 : Int) (x2 : Int) (x3 : Int) (x4 : Int) (x5 : Int) (t0 : Int), wj_X10_isWord_10   x1 x2 x3 x4 x5 t0 s Q → rgI x1 → rgI x2 → rgI x3 → rgI x4 → rgI x5 → rgI t0 → JJ F E 0 0 s 10 [(0, .ref (adE E 279)), (1, .int (jI x1)), (2, .int (jI x2)), (3, .int (jI x3)), (4, .int (jI x4)), (5, .int (jI x5))] [.int (jI t0)] := by
    intro x1 x2 x3 x4 x5 t0 h g1 g2 g3 g4 g5 gt0
    refine J_istore C dX10_isWord_10 (by decide) (lv' := [(6, .int (jI t0)), (0, .ref (adE E 279)), (1, .int (jI x1)), (2, .int (jI x2)), (3, .int (jI x3)), (4, .int (jI x4)), (5, .int (jI x5))]) rfl ?_
    refine J_iload_n C dX10_isWord_12 rfl 3 rfl ?_
    refine J_iload C dX10_isWord_13 0 rfl ?_
    refine J_iadd C dX10_isWord_15 ?_
    refine J_aload_n C dX10_isWord_16 rfl 1 rfl ?_
    refine J_iload_n C dX10_isWord_17 rfl 2 rfl ?_
    refine J_V C (ct_X10_longOf hs g1 h) ck_X10_longOf wm_X10_94 win_X10_longOf wsel_X10_longOf (dmM hs kc279 (by decide)) (clE_k E s kc279) rfl ⟨rfl, rfl⟩ (by decide) (by decide) (As := [.int (jI x1)]) (rest := [.int (jI (x2 + t0))]) rfl rfl (Nat.le_of_ble_eq_true rfl) dX10_isWord_18 (J_pI (fun v21 g23 h => ?_))
    obtain ⟨g25, h⟩ := h
    refine J_icmp_gt C g25 g23 (tgt := 69) dX10_isWord_21 (by decide) (fun q57 => ?_) (fun q57 => ?_)
    · replace h := h.1 q57
      exact J_sub [1, 2, 3, 0] rfl (j69 _ _ _ h g1 g2 gt0)
    · replace h := h.2 q57
      refine J_aload_n C dX10_isWord_24 rfl 1 rfl ?_
      refine J_iload_n C dX10_isWord_25 rfl 2 rfl ?_
      refine J_iload_n C dX10_isWord_26 rfl 3 rfl ?_
      refine J_V C (ct_X10_byteOf hs g1 g2 h) ck_X10_byteOf wm_X10_97 win_X10_byteOf wsel_X10_byteOf (dmM hs kc279 (by decide)) (clE_k E s kc279) rfl ⟨rfl, rfl⟩ (by decide) (by decide) (As := [.int (jI x1), .int (jI x2)]) (rest := []) rfl rfl (Nat.le_of_ble_eq_true rfl) dX10_isWord_27 (J_pI (fun v39 g41 h => ?_))
      refine J_iload_n C dX10_isWord_30 rfl 4 rfl ?_
      refine J_icmp_ne C g41 g3 (tgt := 69) dX10_isWord_31 (by decide) (fun q56 => ?_) (fun q56 => ?_)
      · replace h := h.2 q56
        exact J_sub [1, 2, 3, 0] rfl (j69 _ _ _ h g1 g2 gt0)
      · replace h := h.1 q56
        refine J_aload_n C dX10_isWord_34 rfl 1 rfl ?_
        refine J_iload_n C dX10_isWord_35 rfl 2 rfl ?_
        refine J_iload_n C dX10_isWord_36 rfl 3 rfl ?_
        refine J_iconst C dX10_isWord_37 ?_
        refine J_iadd C dX10_isWord_38 ?_
        obtain ⟨g43, h⟩ := h
        refine J_V C (ct_X10_byteOf hs g1 g43 h) ck_X10_byteOf wm_X10_97 win_X10_byteOf wsel_X10_byteOf (dmM hs kc279 (by decide)) (clE_k E s kc279) rfl ⟨rfl, rfl⟩ (by decide) (by decide) (As := [.int (jI x1), .int (jI (x2 + 1))]) (rest := []) rfl rfl (Nat.le_of_ble_eq_true rfl) dX10_isWord_39 (J_pI (fun v44 g46 h => ?_))
        refine J_iload C dX10_isWord_42 5 rfl ?_
        refine J_icmp_ne C g46 g4 (tgt := 69) dX10_isWord_44 (by decide) (fun q55 => ?_) (fun q55 => ?_)
        · replace h := h.2 q55
          exact J_sub [1, 2, 3, 0] rfl (j69 _ _ _ h g1 g2 gt0)
        · replace h := h.1 q55
          refine J_iload C dX10_isWord_47 6 rfl ?_
          refine J_if_eq C g5 (tgt := 65) dX10_isWord_49 (by decide) (fun q54 => ?_) (fun q54 => ?_)
          · replace h := h.1 q54
            exact J_sub [1, 2, 3, 0] rfl (j65 _ _ _ h g1 g2 gt0)
          · replace h := h.2 q54
            refine J_aload_n C dX10_isWord_52 rfl 1 rfl ?_
            refine J_iload_n C dX10_isWord_53 rfl 2 rfl ?_
            refine J_iload_n C dX10_isWord_54 rfl 3 rfl ?_
            refine J_iconst C dX10_isWord_55 ?_
            refine J_iadd C dX10_isWord_56 ?_
            obtain ⟨g48, h⟩ := h
            refine J_V C (ct_X10_byteOf hs g1 g48 h) ck_X10_byteOf wm_X10_97 win_X10_byteOf wsel_X10_byteOf (dmM hs kc279 (by decide)) (clE_k E s kc279) rfl ⟨rfl, rfl⟩ (by decide) (by decide) (As := [.int (jI x1), .int (jI (x2 + 2))]) (rest := []) rfl rfl (Nat.le_of_ble_eq_true rfl) dX10_isWord_57 (J_pI (fun v49 g51 h => ?_))
            refine J_iload C dX10_isWord_60 6 rfl ?_
            refine J_icmp_ne C g51 g5 (tgt := 69) dX10_isWord_62 (by decide) (fun q53 => ?_) (fun q53 => ?_)
            · replace h := h.2 q53
              exact J_sub [1, 2, 3, 0] rfl (j69 _ _ _ h g1 g2 gt0)
            · replace h := h.1 q53
              exact J_sub [1, 2, 3, 0] rfl (j65 _ _ _ h g1 g2 gt0)
  refine J_iload C dX10_isWord_0 5 rfl ?_
  refine J_if_ne C g5 (tgt := 9) dX10_isWord_2 (by decide) (fun q58 => ?_) (fun q58 => ?_)
  · replace h := h.2 q58
    refine J_iconst C dX10_isWord_9 ?_
    exact J_sub [0, 1, 2, 3, 4, 5] rfl (j10 _ _ _ _ _ _ h g1 g2 g3 g4 g5 (rgN 3 (by decide)))
  · replace h := h.1 q58
    refine J_iconst C dX10_isWord_5 ?_
    refine J_goto C (tgt := 10) dX10_isWord_6 (by decide) ?_
    exact J_sub [0, 1, 2, 3, 4, 5] rfl (j10 _ _ _ _ _ _ h g1 g2 g3 g4 g5 (rgN 2 (by decide)))
set_option maxHeartbeats 4000000 in
set_option maxRecDepth 100000 in
theorem ct_X10_rankOf {l : Launch} {E : ET} (hs : eS E = false) {s : Sg} {x1 : Int} (g1 : rgI x1) {x2 : Int} (g2 : rgI x2) {Q : Int → Prop} (h : wp_X10_rankOf x1 x2 s Q) : MetE l E yX10_rankOf cX10_rankOf 5 (some .int) rm_X10_rankOf s [.ref (adE E 279), .int (jI x1), .int (jI x2)] (qI (fun r t => Q r ∧ t = s) (gN s)) := by
  refine MetJ (by decide +kernel) (Nat.le_of_ble_eq_true rfl) ?_
  intro F hl C hF
  subst hl
  show JJ F E 0 0 s 0 [(0, .ref (adE E 279)), (1, .int (jI x1)), (2, .int (jI x2))] []
  have j98 : ∀ (t0 : Int), wj_X10_rankOf_98   t0 s Q → rgI t0 → JJ F E 0 0 s 98 [] [.int (jI t0)] := by
    intro t0 h gt0
    refine J_istore C dX10_rankOf_98 (by decide) (lv' := [(4, .int (jI t0))]) rfl ?_
    refine J_iload C dX10_rankOf_100 0 rfl ?_
    refine J_if_eq C gt0 (tgt := 109) dX10_rankOf_102 (by decide) (fun q31 => ?_) (fun q31 => ?_)
    · replace h := h.1 q31
      refine J_iconst C dX10_rankOf_109 ?_
      exact J_iret C (Nat.zero_le _) (Nat.zero_le _) dX10_rankOf_110 (by rw [hF]; exact ⟨_, rfl, (rgN 3 (by decide)), ⟨h, rfl⟩, rfl⟩)
    · replace h := h.2 q31
      refine J_iconst C dX10_rankOf_105 ?_
      refine J_goto C (tgt := 110) dX10_rankOf_106 (by decide) ?_
      exact J_iret C (Nat.zero_le _) (Nat.zero_le _) dX10_rankOf_110 (by rw [hF]; exact ⟨_, rfl, (rgN 2 (by decide)), ⟨h, rfl⟩, rfl⟩)
  have j93 : wj_X10_rankOf_93   s Q → JJ F E 0 0 s 93 [] [] := by
    intro h 
    refine J_iconst C dX10_rankOf_93 ?_
    refine J_goto C (tgt := 98) dX10_rankOf_94 (by decide) ?_
    exact J_sub [] rfl (j98 _ h (rgN 1 (by decide)))
  refine J_aload_n C dX10_rankOf_0 rfl 0 rfl ?_
  refine J_iload_n C dX10_rankOf_1 rfl 1 rfl ?_
  refine J_iload_n C dX10_rankOf_2 rfl 2 rfl ?_
  refine J_iconst C dX10_rankOf_3 ?_
  refine J_isub C dX10_rankOf_4 ?_
  obtain ⟨g21, h⟩ := h
  refine J_V C (ct_X10_byteOf hs g1 g21 h) ck_X10_byteOf wm_X10_97 win_X10_byteOf wsel_X10_byteOf (dmM hs kc279 (by decide)) (clE_k E s kc279) rfl ⟨rfl, rfl⟩ (by decide) (by decide) (As := [.int (jI x1), .int (jI (x2 - 1))]) (rest := []) rfl rfl (Nat.le_of_ble_eq_true rfl) dX10_rankOf_5 (J_pI (fun v22 g24 h => ?_))
  refine J_istore_n C dX10_rankOf_8 rfl (by decide) (lv' := [(3, .int (jI v22)), (0, .ref (adE E 279)), (1, .int (jI x1)), (2, .int (jI x2))]) rfl ?_
  refine J_iload_n C dX10_rankOf_9 rfl 0 rfl ?_
  refine J_bipush C dX10_rankOf_10 (by decide) ?_
  refine J_icmp_eq C g24 (rgN 46 (by decide)) (tgt := 27) dX10_rankOf_12 (by decide) (fun q49 => ?_) (fun q49 => ?_)
  · replace h := h.1 q49
    refine J_iconst C dX10_rankOf_27 ?_
    exact J_iret C (Nat.zero_le _) (Nat.zero_le _) dX10_rankOf_28 (by rw [hF]; exact ⟨_, rfl, (rgN 0 (by decide)), ⟨h, rfl⟩, rfl⟩)
  · replace h := h.2 q49
    refine J_iload_n C dX10_rankOf_15 rfl 0 rfl ?_
    refine J_bipush C dX10_rankOf_16 (by decide) ?_
    refine J_icmp_eq C g24 (rgN 33 (by decide)) (tgt := 27) dX10_rankOf_18 (by decide) (fun q48 => ?_) (fun q48 => ?_)
    · replace h := h.1 q48
      refine J_iconst C dX10_rankOf_27 ?_
      exact J_iret C (Nat.zero_le _) (Nat.zero_le _) dX10_rankOf_28 (by rw [hF]; exact ⟨_, rfl, (rgN 0 (by decide)), ⟨h, rfl⟩, rfl⟩)
    · replace h := h.2 q48
      refine J_iload_n C dX10_rankOf_21 rfl 0 rfl ?_
      refine J_bipush C dX10_rankOf_22 (by decide) ?_
      refine J_icmp_ne C g24 (rgN 63 (by decide)) (tgt := 29) dX10_rankOf_24 (by decide) (fun q47 => ?_) (fun q47 => ?_)
      · replace h := h.2 q47
        refine J_iload_n C dX10_rankOf_29 rfl 0 rfl ?_
        refine J_bipush C dX10_rankOf_30 (by decide) ?_
        refine J_icmp_eq C g24 (rgN 44 (by decide)) (tgt := 41) dX10_rankOf_32 (by decide) (fun q46 => ?_) (fun q46 => ?_)
        · replace h := h.1 q46
          refine J_iconst C dX10_rankOf_41 ?_
          exact J_iret C (Nat.zero_le _) (Nat.zero_le _) dX10_rankOf_42 (by rw [hF]; exact ⟨_, rfl, (rgN 1 (by decide)), ⟨h, rfl⟩, rfl⟩)
        · replace h := h.2 q46
          refine J_iload_n C dX10_rankOf_35 rfl 0 rfl ?_
          refine J_bipush C dX10_rankOf_36 (by decide) ?_
          refine J_icmp_ne C g24 (rgN 58 (by decide)) (tgt := 43) dX10_rankOf_38 (by decide) (fun q45 => ?_) (fun q45 => ?_)
          · replace h := h.2 q45
            refine J_aload_n C dX10_rankOf_43 rfl 1 rfl ?_
            refine J_iload_n C dX10_rankOf_44 rfl 2 rfl ?_
            refine J_iload_n C dX10_rankOf_45 rfl 3 rfl ?_
            refine J_iconst C dX10_rankOf_46 ?_
            refine J_iadd C dX10_rankOf_47 ?_
            refine J_bipush C dX10_rankOf_48 (by decide) ?_
            refine J_bipush C dX10_rankOf_50 (by decide) ?_
            refine J_bipush C dX10_rankOf_52 (by decide) ?_
            obtain ⟨g26, h⟩ := h
            refine J_V C (ct_X10_isWord hs g1 g26 (rgN 97 (by decide)) (rgN 110 (by decide)) (rgN 100 (by decide)) h) ck_X10_isWord wm_X10_101 win_X10_isWord wsel_X10_isWord (dmM hs kc279 (by decide)) (clE_k E s kc279) rfl ⟨rfl, rfl⟩ (by decide) (by decide) (As := [.int (jI x1), .int (jI (x2 + 1)), .int (jI 97), .int (jI 110), .int (jI 100)]) (rest := []) rfl rfl (Nat.le_of_ble_eq_true rfl) dX10_rankOf_54 (J_pZ (fun v27 g29 h => ?_))
            refine J_if_ne C (rg_z g29) (tgt := 93) dX10_rankOf_57 (by decide) (fun q44 => ?_) (fun q44 => ?_)
            · replace h := h.2 q44
              exact J_sub [] rfl (j93  h )
            · replace h := h.1 q44
              refine J_aload_n C dX10_rankOf_60 rfl 1 rfl ?_
              refine J_iload_n C dX10_rankOf_61 rfl 2 rfl ?_
              refine J_iload_n C dX10_rankOf_62 rfl 3 rfl ?_
              refine J_iconst C dX10_rankOf_63 ?_
              refine J_iadd C dX10_rankOf_64 ?_
              refine J_bipush C dX10_rankOf_65 (by decide) ?_
              refine J_bipush C dX10_rankOf_67 (by decide) ?_
              refine J_iconst C dX10_rankOf_69 ?_
              obtain ⟨g32, h⟩ := h
              refine J_V C (ct_X10_isWord hs g1 g32 (rgN 111 (by decide)) (rgN 114 (by decide)) (rgN 0 (by decide)) h) ck_X10_isWord wm_X10_101 win_X10_isWord wsel_X10_isWord (dmM hs kc279 (by decide)) (clE_k E s kc279) rfl ⟨rfl, rfl⟩ (by decide) (by decide) (As := [.int (jI x1), .int (jI (x2 + 1)), .int (jI 111), .int (jI 114), .int (jI 0)]) (rest := []) rfl rfl (Nat.le_of_ble_eq_true rfl) dX10_rankOf_70 (J_pZ (fun v33 g35 h => ?_))
              refine J_if_ne C (rg_z g35) (tgt := 93) dX10_rankOf_73 (by decide) (fun q43 => ?_) (fun q43 => ?_)
              · replace h := h.2 q43
                exact J_sub [] rfl (j93  h )
              · replace h := h.1 q43
                refine J_aload_n C dX10_rankOf_76 rfl 1 rfl ?_
                refine J_iload_n C dX10_rankOf_77 rfl 2 rfl ?_
                refine J_iload_n C dX10_rankOf_78 rfl 3 rfl ?_
                refine J_iconst C dX10_rankOf_79 ?_
                refine J_iadd C dX10_rankOf_80 ?_
                refine J_bipush C dX10_rankOf_81 (by decide) ?_
                refine J_bipush C dX10_rankOf_83 (by decide) ?_
                refine J_bipush C dX10_rankOf_85 (by decide) ?_
                obtain ⟨g37, h⟩ := h
                refine J_V C (ct_X10_isWord hs g1 g37 (rgN 98 (by decide)) (rgN 117 (by decide)) (rgN 116 (by decide)) h) ck_X10_isWord wm_X10_101 win_X10_isWord wsel_X10_isWord (dmM hs kc279 (by decide)) (clE_k E s kc279) rfl ⟨rfl, rfl⟩ (by decide) (by decide) (As := [.int (jI x1), .int (jI (x2 + 1)), .int (jI 98), .int (jI 117), .int (jI 116)]) (rest := []) rfl rfl (Nat.le_of_ble_eq_true rfl) dX10_rankOf_87 (J_pZ (fun v38 g40 h => ?_))
                refine J_if_eq C (rg_z g40) (tgt := 97) dX10_rankOf_90 (by decide) (fun q42 => ?_) (fun q42 => ?_)
                · replace h := h.1 q42
                  refine J_iconst C dX10_rankOf_97 ?_
                  exact J_sub [] rfl (j98 _ h (rgN 0 (by decide)))
                · replace h := h.2 q42
                  exact J_sub [] rfl (j93  h )
          · replace h := h.1 q45
            refine J_iconst C dX10_rankOf_41 ?_
            exact J_iret C (Nat.zero_le _) (Nat.zero_le _) dX10_rankOf_42 (by rw [hF]; exact ⟨_, rfl, (rgN 1 (by decide)), ⟨h, rfl⟩, rfl⟩)
      · replace h := h.1 q47
        refine J_iconst C dX10_rankOf_27 ?_
        exact J_iret C (Nat.zero_le _) (Nat.zero_le _) dX10_rankOf_28 (by rw [hF]; exact ⟨_, rfl, (rgN 0 (by decide)), ⟨h, rfl⟩, rfl⟩)
