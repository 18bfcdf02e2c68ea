/-! contracts (printed by wip/whole/gen) -/
set_option maxHeartbeats 4000000 in
set_option maxRecDepth 100000 in
theorem ct_X0_become {l : Launch} {E : ET} (hs : eS E = true) {s : Sg} {r0 : Nat} (k0 : kdO r0 = 6) {r1 : Nat} (k1 : kdO r1 = 6) {Q : Sg → Prop} (h : wp_X0_become r0 r1 s Q) : MetE l E yX0_become cX0_become 2 none rm_X0_become s [.ref (adE E r0), .ref (adE E r1)] (qV Q (gN s)) := by
  refine MetJ (by decide +kernel) (Nat.le_of_ble_eq_true rfl) ?_
  intro F hl C hF
  subst hl
  show JJ F E 0 0 s 0 [(0, .ref (adE E r0)), (1, .ref (adE E r1))] []
  refine J_aload_n C dX0_become_0 rfl 0 rfl ?_
  refine J_aload_n C dX0_become_1 rfl 1 rfl ?_
  refine gf_X0_count C hs k1 wf_X0_18 dX0_become_2 (fun g21 => ?_)
  refine pf_X0_count C hs k0 wf_X0_18 g21 dX0_become_5 ?_
  obtain ⟨s22, f23⟩ : ∃ z : Sg, z = sI s r0 2 (gI s r1 2) := ⟨_, rfl⟩
  replace h := h s22 f23
  refine J_sig f23 ?_
  have n24 : gN s22 = gN s := by rw [f23]; exact rfl
  refine J_aload_n C dX0_become_8 rfl 1 rfl ?_
  refine gf_X0_firsts C hs k1 wf_X0_9 dX0_become_9 ?_
  refine J_iconst C dX0_become_12 ?_
  refine J_aload_n C dX0_become_13 rfl 0 rfl ?_
  refine gf_X0_firsts C hs k0 wf_X0_9 dX0_become_14 ?_
  refine J_iconst C dX0_become_17 ?_
  refine J_bipush C dX0_become_18 (by decide) ?_
  obtain ⟨b25, b26, b27, b28, b29, h⟩ := h
  refine J_copy C (dmC hs (kd6_firsts k1) (by decide)) (wrC hs (kd6_firsts k0) (by decide)) (n0 := 10) (n1 := 10) (fun z => clE_k E z (kd6_firsts k1)) (fun z => clE_k E z (kd6_firsts k0)) (by decide) (by decide) b25 b26 b27 b28 b29 wm_X0_22 wna_copy wst_copy win_System (by decide) (Nat.le_of_ble_eq_true rfl) dX0_become_20 ?_
  obtain ⟨s30, f31⟩ : ∃ z : Sg, z = sC s22 (r1 + 1) 0 (r0 + 1) 0 10 := ⟨_, rfl⟩
  replace h := h s30 f31
  refine J_sig f31 ?_
  have n32 : gN s30 = gN s := by rw [f31]; exact n24
  refine J_aload_n C dX0_become_23 rfl 1 rfl ?_
  refine gf_X0_lengths C hs k1 wf_X0_15 dX0_become_24 ?_
  refine J_iconst C dX0_become_27 ?_
  refine J_aload_n C dX0_become_28 rfl 0 rfl ?_
  refine gf_X0_lengths C hs k0 wf_X0_15 dX0_become_29 ?_
  refine J_iconst C dX0_become_32 ?_
  refine J_bipush C dX0_become_33 (by decide) ?_
  obtain ⟨b33, b34, b35, b36, b37, h⟩ := h
  refine J_copy C (dmC hs (kd6_lengths k1) (by decide)) (wrC hs (kd6_lengths k0) (by decide)) (n0 := 10) (n1 := 10) (fun z => clE_k E z (kd6_lengths k1)) (fun z => clE_k E z (kd6_lengths k0)) (by decide) (by decide) b33 b34 b35 b36 b37 wm_X0_22 wna_copy wst_copy win_System (by decide) (Nat.le_of_ble_eq_true rfl) dX0_become_35 ?_
  obtain ⟨s38, f39⟩ : ∃ z : Sg, z = sC s30 (r1 + 2) 0 (r0 + 2) 0 10 := ⟨_, rfl⟩
  replace h := h s38 f39
  refine J_sig f39 ?_
  have n40 : gN s38 = gN s := by rw [f39]; exact n32
  exact J_vret C (Nat.zero_le _) (Nat.zero_le _) dX0_become_38 (by rw [hF]; exact ⟨rfl, h, n40⟩)
set_option maxHeartbeats 4000000 in
set_option maxRecDepth 100000 in
theorem ct_X0_size {l : Launch} {E : ET} (hs : eS E = true) {s : Sg} {r0 : Nat} (k0 : kdO r0 = 6) {Q : Int → Prop} (h : wp_X0_size r0 s Q) : MetE l E yX0_size cX0_size 1 (some .int) rm_X0_size s [.ref (adE E r0)] (qI (fun r t => Q r ∧ t = s) (gN s)) := by
  refine MetJ (by decide +kernel) (Nat.le_of_ble_eq_true rfl) ?_
  intro F hl C hF
  subst hl
  show JJ F E 0 0 s 0 [(0, .ref (adE E r0))] []
  refine J_aload_n C dX0_size_0 rfl 0 rfl ?_
  refine gf_X0_count C hs k0 wf_X0_18 dX0_size_1 (fun g21 => ?_)
  exact J_iret C (Nat.zero_le _) (Nat.zero_le _) dX0_size_4 (by rw [hF]; exact ⟨_, rfl, g21, ⟨h, rfl⟩, rfl⟩)
set_option maxHeartbeats 4000000 in
set_option maxRecDepth 100000 in
theorem ct_X0_has {l : Launch} {E : ET} (hs : eS E = true) {s : Sg} {r0 : Nat} (k0 : kdO r0 = 6) {x1 : Int} (g1 : rgI x1) {Q : Int → Prop} (h : wp_X0_has r0 x1 s Q) : MetE l E yX0_has cX0_has 2 (some .boolean) rm_X0_has s [.ref (adE E r0), .int (jI x1)] (qZ (fun r t => Q r ∧ t = s) (gN s)) := by
  refine MetJ (by decide +kernel) (Nat.le_of_ble_eq_true rfl) ?_
  intro F hl C hF
  subst hl
  show JJ F E 0 0 s 0 [(0, .ref (adE E r0)), (1, .int (jI x1))] []
  refine J_iload_n C dX0_has_0 rfl 1 rfl ?_
  refine J_if_lt C g1 (tgt := 16) dX0_has_1 (by decide) (fun q23 => ?_) (fun q23 => ?_)
  · replace h := h.1 q23
    refine J_iconst C dX0_has_16 ?_
    exact J_zret C (Nat.zero_le _) (Nat.zero_le _) (nar_z (Or.inl rfl)) dX0_has_17 (by rw [hF]; exact ⟨_, rfl, (Or.inl rfl), ⟨h, rfl⟩, rfl⟩)
  · replace h := h.2 q23
    refine J_iload_n C dX0_has_4 rfl 1 rfl ?_
    refine J_aload_n C dX0_has_5 rfl 0 rfl ?_
    refine gf_X0_count C hs k0 wf_X0_18 dX0_has_6 (fun g21 => ?_)
    refine J_icmp_ge C g1 g21 (tgt := 16) dX0_has_9 (by decide) (fun q22 => ?_) (fun q22 => ?_)
    · replace h := h.1 q22
      refine J_iconst C dX0_has_16 ?_
      exact J_zret C (Nat.zero_le _) (Nat.zero_le _) (nar_z (Or.inl rfl)) dX0_has_17 (by rw [hF]; exact ⟨_, rfl, (Or.inl rfl), ⟨h, rfl⟩, rfl⟩)
    · replace h := h.2 q22
      refine J_iconst C dX0_has_12 ?_
      refine J_goto C (tgt := 17) dX0_has_13 (by decide) ?_
      exact J_zret C (Nat.zero_le _) (Nat.zero_le _) (nar_z (Or.inr rfl)) dX0_has_17 (by rw [hF]; exact ⟨_, rfl, (Or.inr rfl), ⟨h, rfl⟩, rfl⟩)
set_option maxHeartbeats 4000000 in
set_option maxRecDepth 100000 in
theorem ct_X0_firstOf {l : Launch} {E : ET} (hs : eS E = true) {s : Sg} {r0 : Nat} (k0 : kdO r0 = 6) {x1 : Int} (g1 : rgI x1) {Q : Int → Prop} (h : wp_X0_firstOf r0 x1 s Q) : MetE l E yX0_firstOf cX0_firstOf 2 (some .int) rm_X0_firstOf s [.ref (adE E r0), .int (jI x1)] (qI (fun r t => Q r ∧ t = s) (gN s)) := by
  refine MetJ (by decide +kernel) (Nat.le_of_ble_eq_true rfl) ?_
  intro F hl C hF
  subst hl
  show JJ F E 0 0 s 0 [(0, .ref (adE E r0)), (1, .int (jI x1))] []
  refine J_aload_n C dX0_firstOf_0 rfl 0 rfl ?_
  refine J_iload_n C dX0_firstOf_1 rfl 1 rfl ?_
  refine J_V C (ct_X0_has hs k0 g1 h) ck_X0_has wm_X0_28 win_X0_has wsel_X0_has (dmC hs k0 (by decide)) (clE_k E s k0) rfl ⟨rfl, rfl⟩ (by decide) (by decide) (As := [.int (jI x1)]) (rest := []) rfl rfl (Nat.le_of_ble_eq_true rfl) dX0_firstOf_2 (J_pZ (fun v21 g23 h => ?_))
  refine J_if_eq C (rg_z g23) (tgt := 17) dX0_firstOf_5 (by decide) (fun q28 => ?_) (fun q28 => ?_)
  · replace h := h.1 q28
    refine J_iconst C dX0_firstOf_17 ?_
    exact J_iret C (Nat.zero_le _) (Nat.zero_le _) dX0_firstOf_18 (by rw [hF]; exact ⟨_, rfl, (rgN 0 (by decide)), ⟨h, rfl⟩, rfl⟩)
  · replace h := h.2 q28
    refine J_aload_n C dX0_firstOf_8 rfl 0 rfl ?_
    refine gf_X0_firsts C hs k0 wf_X0_9 dX0_firstOf_9 ?_
    refine J_iload_n C dX0_firstOf_12 rfl 1 rfl ?_
    obtain ⟨b25, b26, h⟩ := h
    refine J_iald C (dmC hs (kd6_firsts k0) (by decide)) (n := 10) (clE_k E s (kd6_firsts k0)) (by decide) b25 b26 dX0_firstOf_13 (fun g27 => ?_)
    refine J_goto C (tgt := 18) dX0_firstOf_14 (by decide) ?_
    exact J_iret C (Nat.zero_le _) (Nat.zero_le _) dX0_firstOf_18 (by rw [hF]; exact ⟨_, rfl, g27, ⟨h, rfl⟩, rfl⟩)
set_option maxHeartbeats 4000000 in
set_option maxRecDepth 100000 in
theorem ct_X0_lengthOf {l : Launch} {E : ET} (hs : eS E = true) {s : Sg} {r0 : Nat} (k0 : kdO r0 = 6) {x1 : Int} (g1 : rgI x1) {Q : Int → Prop} (h : wp_X0_lengthOf r0 x1 s Q) : MetE l E yX0_lengthOf cX0_lengthOf 2 (some .int) rm_X0_lengthOf s [.ref (adE E r0), .int (jI x1)] (qI (fun r t => Q r ∧ t = s) (gN s)) := by
  refine MetJ (by decide +kernel) (Nat.le_of_ble_eq_true rfl) ?_
  intro F hl C hF
  subst hl
  show JJ F E 0 0 s 0 [(0, .ref (adE E r0)), (1, .int (jI x1))] []
  refine J_aload_n C dX0_lengthOf_0 rfl 0 rfl ?_
  refine J_iload_n C dX0_lengthOf_1 rfl 1 rfl ?_
  refine J_V C (ct_X0_has hs k0 g1 h) ck_X0_has wm_X0_28 win_X0_has wsel_X0_has (dmC hs k0 (by decide)) (clE_k E s k0) rfl ⟨rfl, rfl⟩ (by decide) (by decide) (As := [.int (jI x1)]) (rest := []) rfl rfl (Nat.le_of_ble_eq_true rfl) dX0_lengthOf_2 (J_pZ (fun v21 g23 h => ?_))
  refine J_if_eq C (rg_z g23) (tgt := 17) dX0_lengthOf_5 (by decide) (fun q28 => ?_) (fun q28 => ?_)
  · replace h := h.1 q28
    refine J_iconst C dX0_lengthOf_17 ?_
    exact J_iret C (Nat.zero_le _) (Nat.zero_le _) dX0_lengthOf_18 (by rw [hF]; exact ⟨_, rfl, (rgN 0 (by decide)), ⟨h, rfl⟩, rfl⟩)
  · replace h := h.2 q28
    refine J_aload_n C dX0_lengthOf_8 rfl 0 rfl ?_
    refine gf_X0_lengths C hs k0 wf_X0_15 dX0_lengthOf_9 ?_
    refine J_iload_n C dX0_lengthOf_12 rfl 1 rfl ?_
    obtain ⟨b25, b26, h⟩ := h
    refine J_iald C (dmC hs (kd6_lengths k0) (by decide)) (n := 10) (clE_k E s (kd6_lengths k0)) (by decide) b25 b26 dX0_lengthOf_13 (fun g27 => ?_)
    refine J_goto C (tgt := 18) dX0_lengthOf_14 (by decide) ?_
    exact J_iret C (Nat.zero_le _) (Nat.zero_le _) dX0_lengthOf_18 (by rw [hF]; exact ⟨_, rfl, g27, ⟨h, rfl⟩, rfl⟩)
set_option maxHeartbeats 4000000 in
set_option maxRecDepth 100000 in
theorem ct_X0_startOf {l : Launch} {E : ET} (hs : eS E = true) {s : Sg} {r0 : Nat} (k0 : kdO r0 = 6) {x1 : Int} (g1 : rgI x1) {Q : Int → Prop} (h : wp_X0_startOf r0 x1 s Q) : MetE l E yX0_startOf cX0_startOf 4 (some .int) rm_X0_startOf s [.ref (adE E r0), .int (jI x1)] (qI (fun r t => Q r ∧ t = s) (gN s)) := by
  refine MetJ (by decide +kernel) (Nat.le_of_ble_eq_true rfl) ?_
  intro F hl C hF
  subst hl
  show JJ F E 0 0 s 0 [(0, .ref (adE E r0)), (1, .int (jI x1))] []
  refine J_iconst C dX0_startOf_0 ?_
  refine J_istore_n C dX0_startOf_1 rfl (by decide) (lv' := [(2, .int (jI 0)), (0, .ref (adE E r0)), (1, .int (jI x1))]) rfl ?_
  refine J_iconst C dX0_startOf_2 ?_
  refine J_istore_n C dX0_startOf_3 rfl (by decide) (lv' := [(3, .int (jI 0)), (2, .int (jI 0)), (0, .ref (adE E r0)), (1, .int (jI x1))]) rfl ?_
  replace h := h (fun (x2_4 : Int) (x3_4 : Int) => rgI x2_4 → rgI x3_4 → JJ F E 0 0 s 4 [(0, .ref (adE E r0)), (1, .int (jI x1)), (2, .int (jI x2_4)), (3, .int (jI x3_4))] []) (by
    intro x2_4 x3_4 h g2_4 g3_4
    refine J_iload_n C dX0_startOf_4 rfl 3 rfl ?_
    refine J_iload_n C dX0_startOf_5 rfl 1 rfl ?_
    refine J_icmp_ge C g3_4 g1 (tgt := 32) dX0_startOf_6 (by decide) (fun q28 => ?_) (fun q28 => ?_)
    · replace h := h.1 q28
      refine J_iload_n C dX0_startOf_32 rfl 2 rfl ?_
      exact J_iret C (Nat.zero_le _) (Nat.zero_le _) dX0_startOf_33 (by rw [hF]; exact ⟨_, rfl, g2_4, ⟨h, rfl⟩, rfl⟩)
    · replace h := h.2 q28
      refine J_iload_n C dX0_startOf_9 rfl 3 rfl ?_
      refine J_aload_n C dX0_startOf_10 rfl 0 rfl ?_
      refine gf_X0_count C hs k0 wf_X0_18 dX0_startOf_11 (fun g21 => ?_)
      refine J_icmp_ge C g3_4 g21 (tgt := 32) dX0_startOf_14 (by decide) (fun q27 => ?_) (fun q27 => ?_)
      · replace h := h.1 q27
        refine J_iload_n C dX0_startOf_32 rfl 2 rfl ?_
        exact J_iret C (Nat.zero_le _) (Nat.zero_le _) dX0_startOf_33 (by rw [hF]; exact ⟨_, rfl, g2_4, ⟨h, rfl⟩, rfl⟩)
      · replace h := h.2 q27
        refine J_iload_n C dX0_startOf_17 rfl 2 rfl ?_
        refine J_aload_n C dX0_startOf_18 rfl 0 rfl ?_
        refine gf_X0_lengths C hs k0 wf_X0_15 dX0_startOf_19 ?_
        refine J_iload_n C dX0_startOf_22 rfl 3 rfl ?_
        obtain ⟨b22, b23, h⟩ := h
        refine J_iald C (dmC hs (kd6_lengths k0) (by decide)) (n := 10) (clE_k E s (kd6_lengths k0)) (by decide) b22 b23 dX0_startOf_23 (fun g24 => ?_)
        refine J_iadd C dX0_startOf_24 ?_
        obtain ⟨x2_25, e25⟩ : ∃ v : Int, v = (x2_4 + (gI s (r0 + 2) x3_4)) := ⟨_, rfl⟩
        obtain ⟨g2_25, h⟩ := h x2_25 e25
        refine J_top e25 ?_
        refine J_istore_n C dX0_startOf_25 rfl (by decide) (lv' := [(2, .int (jI x2_25)), (0, .ref (adE E r0)), (1, .int (jI x1)), (3, .int (jI x3_4))]) rfl ?_
        refine J_iinc C dX0_startOf_26 3 rfl (by decide) (lv' := [(3, .int (jI (x3_4 + 1))), (2, .int (jI x2_25)), (0, .ref (adE E r0)), (1, .int (jI x1))]) rfl ?_
        refine J_goto C (tgt := 4) dX0_startOf_29 (by decide) ?_
        obtain ⟨g26, h⟩ := h
        exact J_sub [2, 3, 1, 0] rfl (h g2_25 g26)
  )
  exact J_sub [2, 3, 1, 0] rfl (h (rgN 0 (by decide)) (rgN 0 (by decide)))
set_option maxHeartbeats 4000000 in
set_option maxRecDepth 100000 in
theorem ct_X0_frames {l : Launch} {E : ET} (hs : eS E = true) {s : Sg} {r0 : Nat} (k0 : kdO r0 = 6) {Q : Int → Prop} (h : wp_X0_frames r0 s Q) : MetE l E yX0_frames cX0_frames 1 (some .int) rm_X0_frames s [.ref (adE E r0)] (qI (fun r t => Q r ∧ t = s) (gN s)) := by
  refine MetJ (by decide +kernel) (Nat.le_of_ble_eq_true rfl) ?_
  intro F hl C hF
  subst hl
  show JJ F E 0 0 s 0 [(0, .ref (adE E r0))] []
  refine J_aload_n C dX0_frames_0 rfl 0 rfl ?_
  refine J_aload_n C dX0_frames_1 rfl 0 rfl ?_
  refine gf_X0_count C hs k0 wf_X0_18 dX0_frames_2 (fun g21 => ?_)
  refine J_V C (ct_X0_startOf hs k0 g21 h) ck_X0_startOf wm_X0_32 win_X0_startOf wsel_X0_startOf (dmC hs k0 (by decide)) (clE_k E s k0) rfl ⟨rfl, rfl⟩ (by decide) (by decide) (As := [.int (jI (gI s r0 2))]) (rest := []) rfl rfl (Nat.le_of_ble_eq_true rfl) dX0_frames_5 (J_pI (fun v22 g24 h => ?_))
  exact J_iret C (Nat.zero_le _) (Nat.zero_le _) dX0_frames_8 (by rw [hF]; exact ⟨_, rfl, g24, ⟨h, rfl⟩, rfl⟩)
set_option maxHeartbeats 4000000 in
set_option maxRecDepth 100000 in
theorem ct_X0_append {l : Launch} {E : ET} (hs : eS E = true) {s : Sg} {r0 : Nat} (k0 : kdO r0 = 6) {x1 : Int} (g1 : rgI x1) {x2 : Int} (g2 : rgI x2) {Q : Sg → Prop} (h : wp_X0_append r0 x1 x2 s Q) : MetE l E yX0_append cX0_append 3 none rm_X0_append s [.ref (adE E r0), .int (jI x1), .int (jI x2)] (qV Q (gN s)) := by
  refine MetJ (by decide +kernel) (Nat.le_of_ble_eq_true rfl) ?_
  intro F hl C hF
  subst hl
  show JJ F E 0 0 s 0 [(0, .ref (adE E r0)), (1, .int (jI x1)), (2, .int (jI x2))] []
  refine J_aload_n C dX0_append_0 rfl 0 rfl ?_
  refine gf_X0_count C hs k0 wf_X0_18 dX0_append_1 (fun g21 => ?_)
  refine J_bipush C dX0_append_4 (by decide) ?_
  refine J_icmp_lt C g21 (rgN 10 (by decide)) (tgt := 10) dX0_append_6 (by decide) (fun q39 => ?_) (fun q39 => ?_)
  · replace h := h.1 q39
    refine J_aload_n C dX0_append_10 rfl 0 rfl ?_
    refine gf_X0_firsts C hs k0 wf_X0_9 dX0_append_11 ?_
    refine J_aload_n C dX0_append_14 rfl 0 rfl ?_
    refine gf_X0_count C hs k0 wf_X0_18 dX0_append_15 (fun g22 => ?_)
    refine J_iload_n C dX0_append_18 rfl 1 rfl ?_
    obtain ⟨b23, b24, h⟩ := h
    refine J_iast C (wrC hs (kd6_firsts k0) (by decide)) (n := 10) (fun z => clE_k E z (kd6_firsts k0)) (by decide) b23 b24 g1 dX0_append_19 ?_
    obtain ⟨s25, f26⟩ : ∃ z : Sg, z = sI s (r0 + 1) (gI s r0 2) x1 := ⟨_, rfl⟩
    replace h := h s25 f26
    refine J_sig f26 ?_
    have n27 : gN s25 = gN s := by rw [f26]; exact rfl
    refine J_aload_n C dX0_append_20 rfl 0 rfl ?_
    refine gf_X0_lengths C hs k0 wf_X0_15 dX0_append_21 ?_
    refine J_aload_n C dX0_append_24 rfl 0 rfl ?_
    refine gf_X0_count C hs k0 wf_X0_18 dX0_append_25 (fun g28 => ?_)
    refine J_iload_n C dX0_append_28 rfl 2 rfl ?_
    obtain ⟨b29, b30, h⟩ := h
    refine J_iast C (wrC hs (kd6_lengths k0) (by decide)) (n := 10) (fun z => clE_k E z (kd6_lengths k0)) (by decide) b29 b30 g2 dX0_append_29 ?_
    obtain ⟨s31, f32⟩ : ∃ z : Sg, z = sI s25 (r0 + 2) (gI s25 r0 2) x2 := ⟨_, rfl⟩
    replace h := h s31 f32
    refine J_sig f32 ?_
    have n33 : gN s31 = gN s := by rw [f32]; exact n27
    refine J_aload_n C dX0_append_30 rfl 0 rfl ?_
    refine J_dup C dX0_append_31 rfl ?_
    refine gf_X0_count C hs k0 wf_X0_18 dX0_append_32 (fun g34 => ?_)
    refine J_iconst C dX0_append_35 ?_
    refine J_iadd C dX0_append_36 ?_
    obtain ⟨g37, h⟩ := h
    refine pf_X0_count C hs k0 wf_X0_18 g37 dX0_append_37 ?_
    obtain ⟨s35, f36⟩ : ∃ z : Sg, z = sI s31 r0 2 ((gI s31 r0 2) + 1) := ⟨_, rfl⟩
    replace h := h s35 f36
    refine J_sig f36 ?_
    have n38 : gN s35 = gN s := by rw [f36]; exact n33
    exact J_vret C (Nat.zero_le _) (Nat.zero_le _) dX0_append_40 (by rw [hF]; exact ⟨rfl, h, n38⟩)
  · replace h := h.2 q39
    exact J_vret C (Nat.zero_le _) (Nat.zero_le _) dX0_append_9 (by rw [hF]; exact ⟨rfl, h, rfl⟩)
set_option maxHeartbeats 4000000 in
set_option maxRecDepth 100000 in
theorem ct_X0_newFrame {l : Launch} {E : ET} (hs : eS E = true) {s : Sg} {r0 : Nat} (k0 : kdO r0 = 6) {x1 : Int} (g1 : rgI x1) {x2 : Int} (g2 : rgI x2) {Q : Int → Prop} (h : wp_X0_newFrame r0 x1 x2 s Q) : MetE l E yX0_newFrame cX0_newFrame 7 (some .int) rm_X0_newFrame s [.ref (adE E r0), .int (jI x1), .int (jI x2)] (qI (fun r t => Q r ∧ t = s) (gN s)) := by
  refine MetJ (by decide +kernel) (Nat.le_of_ble_eq_true rfl) ?_
  intro F hl C hF
  subst hl
  show JJ F E 0 0 s 0 [(0, .ref (adE E r0)), (1, .int (jI x1)), (2, .int (jI x2))] []
  refine J_iload_n C dX0_newFrame_0 rfl 2 rfl ?_
  refine J_istore_n C dX0_newFrame_1 rfl (by decide) (lv' := [(3, .int (jI x2)), (0, .ref (adE E r0)), (1, .int (jI x1)), (2, .int (jI x2))]) rfl ?_
  refine J_iconst C dX0_newFrame_2 ?_
  refine J_istore C dX0_newFrame_3 (by decide) (lv' := [(4, .int (jI 0)), (3, .int (jI x2)), (0, .ref (adE E r0)), (1, .int (jI x1)), (2, .int (jI x2))]) rfl ?_
  refine J_iconst C dX0_newFrame_5 ?_
  refine J_istore C dX0_newFrame_6 (by decide) (lv' := [(5, .int (jI 0)), (4, .int (jI 0)), (3, .int (jI x2)), (0, .ref (adE E r0)), (1, .int (jI x1)), (2, .int (jI x2))]) rfl ?_
  replace h := h (fun (x3_8 : Int) (x4_8 : Int) (x5_8 : Int) => rgI x3_8 → rgI x4_8 → rgI x5_8 → JJ F E 0 0 s 8 [(0, .ref (adE E r0)), (1, .int (jI x1)), (3, .int (jI x3_8)), (4, .int (jI x4_8)), (5, .int (jI x5_8))] []) (by
    intro x3_8 x4_8 x5_8 h g3_8 g4_8 g5_8
    have j58 : ∀ (x3 : Int) (x4 : Int) (x5 : Int), wj_X0_newFrame_58 (fun (x3_8 : Int) (x4_8 : Int) (x5_8 : Int) => rgI x3_8 → rgI x4_8 → rgI x5_8 → JJ F E 0 0 s 8 [(0, .ref (adE E r0)), (1, .int (jI x1)), (3, .int (jI x3_8)), (4, .int (jI x4_8)), (5, .int (jI x5_8))] []) r0 x1 x3 x4 x5 s Q → rgI x3 → rgI x4 → rgI x5 → JJ F E 0 0 s 58 [(0, .ref (adE E r0)), (1, .int (jI x1)), (3, .int (jI x3)), (4, .int (jI x4)), (5, .int (jI x5))] [] := by
      intro x3 x4 x5 h g3 g4 g5
      refine J_iload C dX0_newFrame_58 3 rfl ?_
      refine J_aload_n C dX0_newFrame_60 rfl 0 rfl ?_
      refine gf_X0_lengths C hs k0 wf_X0_15 dX0_newFrame_61 ?_
      refine J_iload C dX0_newFrame_64 4 rfl ?_
      obtain ⟨b26, b27, h⟩ := h
      refine J_iald C (dmC hs (kd6_lengths k0) (by decide)) (n := 10) (clE_k E s (kd6_lengths k0)) (by decide) b26 b27 dX0_newFrame_66 (fun g28 => ?_)
      refine J_iadd C dX0_newFrame_67 ?_
      obtain ⟨x4_68, e29⟩ : ∃ v : Int, v = (x4 + (gI s (r0 + 2) x5)) := ⟨_, rfl⟩
      obtain ⟨g4_68, h⟩ := h x4_68 e29
      refine J_top e29 ?_
      refine J_istore C dX0_newFrame_68 (by decide) (lv' := [(4, .int (jI x4_68)), (0, .ref (adE E r0)), (1, .int (jI x1)), (3, .int (jI x3)), (5, .int (jI x5))]) rfl ?_
      refine J_iinc C dX0_newFrame_70 4 rfl (by decide) (lv' := [(5, .int (jI (x5 + 1))), (4, .int (jI x4_68)), (0, .ref (adE E r0)), (1, .int (jI x1)), (3, .int (jI x3))]) rfl ?_
      refine J_goto C (tgt := 8) dX0_newFrame_73 (by decide) ?_
      obtain ⟨g30, h⟩ := h
      exact J_sub [2, 3, 4, 1, 0] rfl (h g3 g4_68 g30)
    refine J_iload C dX0_newFrame_8 4 rfl ?_
    refine J_aload_n C dX0_newFrame_10 rfl 0 rfl ?_
    refine gf_X0_count C hs k0 wf_X0_18 dX0_newFrame_11 (fun g21 => ?_)
    refine J_icmp_ge C g5_8 g21 (tgt := 76) dX0_newFrame_14 (by decide) (fun q39 => ?_) (fun q39 => ?_)
    · replace h := h.1 q39
      refine J_bipush C dX0_newFrame_76 (by decide) ?_
      exact J_iret C (Nat.zero_le _) (Nat.zero_le _) dX0_newFrame_78 (by rw [hF]; exact ⟨_, rfl, (rgN (-9) (by decide)), ⟨h, rfl⟩, rfl⟩)
    · replace h := h.2 q39
      refine J_iload_n C dX0_newFrame_17 rfl 1 rfl ?_
      refine J_aload_n C dX0_newFrame_18 rfl 0 rfl ?_
      refine gf_X0_firsts C hs k0 wf_X0_9 dX0_newFrame_19 ?_
      refine J_iload C dX0_newFrame_22 4 rfl ?_
      obtain ⟨b22, b23, h⟩ := h
      refine J_iald C (dmC hs (kd6_firsts k0) (by decide)) (n := 10) (clE_k E s (kd6_firsts k0)) (by decide) b22 b23 dX0_newFrame_24 (fun g24 => ?_)
      refine J_isub C dX0_newFrame_25 ?_
      obtain ⟨x6_26, e25⟩ : ∃ v : Int, v = (x1 - (gI s (r0 + 1) x5_8)) := ⟨_, rfl⟩
      obtain ⟨g6_26, h⟩ := h x6_26 e25
      refine J_top e25 ?_
      refine J_istore C dX0_newFrame_26 (by decide) (lv' := [(6, .int (jI x6_26)), (0, .ref (adE E r0)), (1, .int (jI x1)), (3, .int (jI x3_8)), (4, .int (jI x4_8)), (5, .int (jI x5_8))]) rfl ?_
      refine J_iload C dX0_newFrame_28 0 rfl ?_
      refine J_if_lt C g6_26 (tgt := 58) dX0_newFrame_30 (by decide) (fun q38 => ?_) (fun q38 => ?_)
      · replace h := h.1 q38
        exact J_sub [1, 2, 3, 4, 5] rfl (j58 _ _ _ h g3_8 g4_8 g5_8)
      · replace h := h.2 q38
        refine J_iload C dX0_newFrame_33 0 rfl ?_
        refine J_aload_n C dX0_newFrame_35 rfl 1 rfl ?_
        refine gf_X0_lengths C hs k0 wf_X0_15 dX0_newFrame_36 ?_
        refine J_iload C dX0_newFrame_39 5 rfl ?_
        obtain ⟨b31, b32, h⟩ := h
        refine J_iald C (dmC hs (kd6_lengths k0) (by decide)) (n := 10) (clE_k E s (kd6_lengths k0)) (by decide) b31 b32 dX0_newFrame_41 (fun g33 => ?_)
        refine J_icmp_ge C g6_26 g33 (tgt := 58) dX0_newFrame_42 (by decide) (fun q37 => ?_) (fun q37 => ?_)
        · replace h := h.1 q37
          exact J_sub [1, 2, 3, 4, 5] rfl (j58 _ _ _ h g3_8 g4_8 g5_8)
        · replace h := h.2 q37
          refine J_iload_n C dX0_newFrame_45 rfl 3 rfl ?_
          refine J_if_ne C g3_8 (tgt := 55) dX0_newFrame_46 (by decide) (fun q36 => ?_) (fun q36 => ?_)
          · replace h := h.2 q36
            refine J_iinc C dX0_newFrame_55 3 rfl (by decide) (lv' := [(3, .int (jI (x3_8 + (-1)))), (6, .int (jI x6_26)), (0, .ref (adE E r0)), (1, .int (jI x1)), (4, .int (jI x4_8)), (5, .int (jI x5_8))]) rfl ?_
            obtain ⟨g34, h⟩ := h
            exact J_sub [2, 3, 0, 4, 5] rfl (j58 _ _ _ h g34 g4_8 g5_8)
          · replace h := h.1 q36
            refine J_iload C dX0_newFrame_49 4 rfl ?_
            refine J_iload C dX0_newFrame_51 0 rfl ?_
            refine J_iadd C dX0_newFrame_53 ?_
            obtain ⟨g35, h⟩ := h
            exact J_iret C (Nat.zero_le _) (Nat.zero_le _) dX0_newFrame_54 (by rw [hF]; exact ⟨_, rfl, g35, ⟨h, rfl⟩, rfl⟩)
  )
  exact J_sub [3, 4, 2, 1, 0] rfl (h g2 (rgN 0 (by decide)) (rgN 0 (by decide)))
set_option maxHeartbeats 4000000 in
set_option maxRecDepth 100000 in
theorem ct_X0_oldFrame {l : Launch} {E : ET} (hs : eS E = true) {s : Sg} {r0 : Nat} (k0 : kdO r0 = 6) {x1 : Int} (g1 : rgI x1) {Q : Int → Prop} (h : wp_X0_oldFrame r0 x1 s Q) : MetE l E yX0_oldFrame cX0_oldFrame 4 (some .int) rm_X0_oldFrame s [.ref (adE E r0), .int (jI x1)] (qI (fun r t => Q r ∧ t = s) (gN s)) := by
  refine MetJ (by decide +kernel) (Nat.le_of_ble_eq_true rfl) ?_
  intro F hl C hF
  subst hl
  show JJ F E 0 0 s 0 [(0, .ref (adE E r0)), (1, .int (jI x1))] []
  refine J_iload_n C dX0_oldFrame_0 rfl 1 rfl ?_
  refine J_istore_n C dX0_oldFrame_1 rfl (by decide) (lv' := [(2, .int (jI x1)), (0, .ref (adE E r0)), (1, .int (jI x1))]) rfl ?_
  refine J_iconst C dX0_oldFrame_2 ?_
  refine J_istore_n C dX0_oldFrame_3 rfl (by decide) (lv' := [(3, .int (jI 0)), (2, .int (jI x1)), (0, .ref (adE E r0)), (1, .int (jI x1))]) rfl ?_
  replace h := h (fun (x2_4 : Int) (x3_4 : Int) => rgI x2_4 → rgI x3_4 → JJ F E 0 0 s 4 [(0, .ref (adE E r0)), (2, .int (jI x2_4)), (3, .int (jI x3_4))] []) (by
    intro x2_4 x3_4 h g2_4 g3_4
    refine J_iload_n C dX0_oldFrame_4 rfl 2 rfl ?_
    refine J_aload_n C dX0_oldFrame_5 rfl 0 rfl ?_
    refine gf_X0_count C hs k0 wf_X0_18 dX0_oldFrame_6 (fun g21 => ?_)
    refine J_icmp_ge C g3_4 g21 (tgt := 46) dX0_oldFrame_9 (by decide) (fun q35 => ?_) (fun q35 => ?_)
    · replace h := h.1 q35
      refine J_bipush C dX0_oldFrame_46 (by decide) ?_
      exact J_iret C (Nat.zero_le _) (Nat.zero_le _) dX0_oldFrame_48 (by rw [hF]; exact ⟨_, rfl, (rgN (-9) (by decide)), ⟨h, rfl⟩, rfl⟩)
    · replace h := h.2 q35
      refine J_iload_n C dX0_oldFrame_12 rfl 1 rfl ?_
      refine J_aload_n C dX0_oldFrame_13 rfl 0 rfl ?_
      refine gf_X0_lengths C hs k0 wf_X0_15 dX0_oldFrame_14 ?_
      refine J_iload_n C dX0_oldFrame_17 rfl 2 rfl ?_
      obtain ⟨b22, b23, h⟩ := h
      refine J_iald C (dmC hs (kd6_lengths k0) (by decide)) (n := 10) (clE_k E s (kd6_lengths k0)) (by decide) b22 b23 dX0_oldFrame_18 (fun g24 => ?_)
      refine J_icmp_ge C g2_4 g24 (tgt := 31) dX0_oldFrame_19 (by decide) (fun q34 => ?_) (fun q34 => ?_)
      · replace h := h.1 q34
        refine J_iload_n C dX0_oldFrame_31 rfl 1 rfl ?_
        refine J_aload_n C dX0_oldFrame_32 rfl 0 rfl ?_
        refine gf_X0_lengths C hs k0 wf_X0_15 dX0_oldFrame_33 ?_
        refine J_iload_n C dX0_oldFrame_36 rfl 2 rfl ?_
        obtain ⟨b25, b26, h⟩ := h
        refine J_iald C (dmC hs (kd6_lengths k0) (by decide)) (n := 10) (clE_k E s (kd6_lengths k0)) (by decide) b25 b26 dX0_oldFrame_37 (fun g27 => ?_)
        refine J_isub C dX0_oldFrame_38 ?_
        obtain ⟨x2_39, e28⟩ : ∃ v : Int, v = (x2_4 - (gI s (r0 + 2) x3_4)) := ⟨_, rfl⟩
        obtain ⟨g2_39, h⟩ := h x2_39 e28
        refine J_top e28 ?_
        refine J_istore_n C dX0_oldFrame_39 rfl (by decide) (lv' := [(2, .int (jI x2_39)), (0, .ref (adE E r0)), (3, .int (jI x3_4))]) rfl ?_
        refine J_iinc C dX0_oldFrame_40 2 rfl (by decide) (lv' := [(3, .int (jI (x3_4 + 1))), (2, .int (jI x2_39)), (0, .ref (adE E r0))]) rfl ?_
        refine J_goto C (tgt := 4) dX0_oldFrame_43 (by decide) ?_
        obtain ⟨g29, h⟩ := h
        exact J_sub [2, 1, 0] rfl (h g2_39 g29)
      · replace h := h.2 q34
        refine J_aload_n C dX0_oldFrame_22 rfl 0 rfl ?_
        refine gf_X0_firsts C hs k0 wf_X0_9 dX0_oldFrame_23 ?_
        refine J_iload_n C dX0_oldFrame_26 rfl 2 rfl ?_
        obtain ⟨b30, b31, h⟩ := h
        refine J_iald C (dmC hs (kd6_firsts k0) (by decide)) (n := 10) (clE_k E s (kd6_firsts k0)) (by decide) b30 b31 dX0_oldFrame_27 (fun g32 => ?_)
        refine J_iload_n C dX0_oldFrame_28 rfl 1 rfl ?_
        refine J_iadd C dX0_oldFrame_29 ?_
        obtain ⟨g33, h⟩ := h
        exact J_iret C (Nat.zero_le _) (Nat.zero_le _) dX0_oldFrame_30 (by rw [hF]; exact ⟨_, rfl, g33, ⟨h, rfl⟩, rfl⟩)
  )
  exact J_sub [2, 1, 0] rfl (h g1 (rgN 0 (by decide)))
set_option maxHeartbeats 4000000 in
set_option maxRecDepth 100000 in
theorem ct_X1_size {l : Launch} {E : ET} (hs : eS E = true) {s : Sg} {Q : Int → Prop} (h : wp_X1_size s Q) : MetE l E yX1_size cX1_size 1 (some .int) rm_X1_size s [.ref (adE E 61)] (qI (fun r t => Q r ∧ t = s) (gN s)) := by
  refine MetJ (by decide +kernel) (Nat.le_of_ble_eq_true rfl) ?_
  intro F hl C hF
  subst hl
  show JJ F E 0 0 s 0 [(0, .ref (adE E 61))] []
  refine J_aload_n C dX1_size_0 rfl 0 rfl ?_
  refine gf_X1_count C hs wf_X1_20 dX1_size_1 (fun g21 => ?_)
  exact J_iret C (Nat.zero_le _) (Nat.zero_le _) dX1_size_4 (by rw [hF]; exact ⟨_, rfl, g21, ⟨h, rfl⟩, rfl⟩)
set_option maxHeartbeats 4000000 in
set_option maxRecDepth 100000 in
theorem ct_X1_forgetOldest {l : Launch} {E : ET} (hs : eS E = true) {s : Sg} {Q : Sg → Prop} (h : wp_X1_forgetOldest s Q) : MetE l E yX1_forgetOldest cX1_forgetOldest 3 none rm_X1_forgetOldest s [.ref (adE E 61)] (qV Q (gN s)) := by
  refine MetJ (by decide +kernel) (Nat.le_of_ble_eq_true rfl) ?_
  intro F hl C hF
  subst hl
  show JJ F E 0 0 s 0 [(0, .ref (adE E 61))] []
  refine J_aload_n C dX1_forgetOldest_0 rfl 0 rfl ?_
  refine gf_X1_states C hs wf_X1_11 dX1_forgetOldest_1 ?_
  refine J_iconst C dX1_forgetOldest_4 ?_
  obtain ⟨b21, b22, h⟩ := h
  refine J_aaldT C hs b21 b22 dX1_forgetOldest_5 (fun k23 => ?_)
  refine J_astore_n C dX1_forgetOldest_6 rfl (by decide) (lv' := [(1, .ref (adE E (gR s 62 0))), (0, .ref (adE E 61))]) rfl ?_
  refine J_iconst C dX1_forgetOldest_7 ?_
  refine J_istore_n C dX1_forgetOldest_8 rfl (by decide) (lv' := [(2, .int (jI 0)), (1, .ref (adE E (gR s 62 0))), (0, .ref (adE E 61))]) rfl ?_
  replace h := h (fun (x2_9 : Int) (sL9 : Sg) => rgI x2_9 → gN sL9 = gN s → JJ F E 0 0 sL9 9 [(0, .ref (adE E 61)), (1, .ref (adE E (gR s 62 0))), (2, .int (jI x2_9))] []) (by
    intro x2_9 sL9 h g2_9 nL9
    refine J_iload_n C dX1_forgetOldest_9 rfl 2 rfl ?_
    refine J_iconst C dX1_forgetOldest_10 ?_
    refine J_iadd C dX1_forgetOldest_11 ?_
    refine J_aload_n C dX1_forgetOldest_12 rfl 0 rfl ?_
    refine gf_X1_states C hs wf_X1_11 dX1_forgetOldest_13 ?_
    refine J_alen C (dmC hs kc62 (by decide)) (n := 8) 3 rfl (clE_k E sL9 kc62) dX1_forgetOldest_16 ?_
    obtain ⟨g24, h⟩ := h
    refine J_icmp_ge C g24 (rgN 8 (by decide)) (tgt := 40) dX1_forgetOldest_17 (by decide) (fun q44 => ?_) (fun q44 => ?_)
    · replace h := h.1 q44
      refine J_aload_n C dX1_forgetOldest_40 rfl 0 rfl ?_
      refine J_aload_n C dX1_forgetOldest_41 rfl 0 rfl ?_
      refine gf_X1_states C hs wf_X1_11 dX1_forgetOldest_42 ?_
      refine J_alen C (dmC hs kc62 (by decide)) (n := 8) 3 rfl (clE_k E sL9 kc62) dX1_forgetOldest_45 ?_
      refine J_iconst C dX1_forgetOldest_46 ?_
      refine J_isub C dX1_forgetOldest_47 ?_
      obtain ⟨g27, h⟩ := h
      refine pf_X1_count C hs wf_X1_20 g27 dX1_forgetOldest_48 ?_
      obtain ⟨s25, f26⟩ : ∃ z : Sg, z = sI sL9 61 1 (8 - 1) := ⟨_, rfl⟩
      replace h := h s25 f26
      refine J_sig f26 ?_
      have n28 : gN s25 = gN s := by rw [f26]; exact nL9
      refine J_aload_n C dX1_forgetOldest_51 rfl 0 rfl ?_
      refine gf_X1_states C hs wf_X1_11 dX1_forgetOldest_52 ?_
      refine J_aload_n C dX1_forgetOldest_55 rfl 0 rfl ?_
      refine gf_X1_count C hs wf_X1_20 dX1_forgetOldest_56 (fun g29 => ?_)
      refine J_aload_n C dX1_forgetOldest_59 rfl 1 rfl ?_
      obtain ⟨b30, b31, h⟩ := h
      refine J_aastT C hs kc62 k23 b30 b31 dX1_forgetOldest_60 ?_
      obtain ⟨s32, f33⟩ : ∃ z : Sg, z = sR s25 62 (gI s25 61 1) (gR s 62 0) := ⟨_, rfl⟩
      replace h := h s32 f33
      refine J_sig f33 ?_
      have n34 : gN s32 = gN s := by rw [f33]; exact n28
      exact J_vret C (Nat.zero_le _) (Nat.zero_le _) dX1_forgetOldest_61 (by rw [hF]; exact ⟨rfl, h, n34⟩)
    · replace h := h.2 q44
      refine J_aload_n C dX1_forgetOldest_20 rfl 0 rfl ?_
      refine gf_X1_states C hs wf_X1_11 dX1_forgetOldest_21 ?_
      refine J_iload_n C dX1_forgetOldest_24 rfl 2 rfl ?_
      refine J_aload_n C dX1_forgetOldest_25 rfl 0 rfl ?_
      refine gf_X1_states C hs wf_X1_11 dX1_forgetOldest_26 ?_
      refine J_iload_n C dX1_forgetOldest_29 rfl 2 rfl ?_
      refine J_iconst C dX1_forgetOldest_30 ?_
      refine J_iadd C dX1_forgetOldest_31 ?_
      obtain ⟨b35, b36, h⟩ := h
      refine J_aaldT C hs b35 b36 dX1_forgetOldest_32 (fun k37 => ?_)
      obtain ⟨b38, b39, h⟩ := h
      refine J_aastT C hs kc62 k37 b38 b39 dX1_forgetOldest_33 ?_
      obtain ⟨s40, f41⟩ : ∃ z : Sg, z = sR sL9 62 x2_9 (gR sL9 62 (x2_9 + 1)) := ⟨_, rfl⟩
      replace h := h s40 f41
      refine J_sig f41 ?_
      have n42 : gN s40 = gN s := by rw [f41]; exact nL9
      refine J_iinc C dX1_forgetOldest_34 2 rfl (by decide) (lv' := [(2, .int (jI (x2_9 + 1))), (0, .ref (adE E 61)), (1, .ref (adE E (gR s 62 0)))]) rfl ?_
      refine J_goto C (tgt := 9) dX1_forgetOldest_37 (by decide) ?_
      obtain ⟨g43, h⟩ := h
      exact J_sub [1, 2, 0] rfl (h g43 n42)
  )
  exact J_sub [2, 1, 0] rfl (h (rgN 0 (by decide)) rfl)
set_option maxHeartbeats 4000000 in
set_option maxRecDepth 100000 in
theorem ct_X4_become {l : Launch} {E : ET} (hs : eS E = true) {s : Sg} {r0 : Nat} (k0 : kdO r0 = 8) {r1 : Nat} (k1 : kdO r1 = 8) {Q : Sg → Prop} (h : wp_X4_become r0 r1 s Q) : MetE l E yX4_become cX4_become 2 none rm_X4_become s [.ref (adE E r0), .ref (adE E r1)] (qV Q (gN s)) := by
  refine MetJ (by decide +kernel) (Nat.le_of_ble_eq_true rfl) ?_
  intro F hl C hF
  subst hl
  show JJ F E 0 0 s 0 [(0, .ref (adE E r0)), (1, .ref (adE E r1))] []
  refine J_aload_n C dX4_become_0 rfl 0 rfl ?_
  refine J_aload_n C dX4_become_1 rfl 1 rfl ?_
  refine gf_X4_count C hs k1 wf_X4_15 dX4_become_2 (fun g21 => ?_)
  refine pf_X4_count C hs k0 wf_X4_15 g21 dX4_become_5 ?_
  obtain ⟨s22, f23⟩ : ∃ z : Sg, z = sI s r0 1 (gI s r1 1) := ⟨_, rfl⟩
  replace h := h s22 f23
  refine J_sig f23 ?_
  have n24 : gN s22 = gN s := by rw [f23]; exact rfl
  refine J_aload_n C dX4_become_8 rfl 1 rfl ?_
  refine gf_X4_frames C hs k1 wf_X4_9 dX4_become_9 ?_
  refine J_iconst C dX4_become_12 ?_
  refine J_aload_n C dX4_become_13 rfl 0 rfl ?_
  refine gf_X4_frames C hs k0 wf_X4_9 dX4_become_14 ?_
  refine J_iconst C dX4_become_17 ?_
  refine J_bipush C dX4_become_18 (by decide) ?_
  obtain ⟨b25, b26, b27, b28, b29, h⟩ := h
  refine J_copy C (dmC hs (kd8_frames k1) (by decide)) (wrC hs (kd8_frames k0) (by decide)) (n0 := 20) (n1 := 20) (fun z => clE_k E z (kd8_frames k1)) (fun z => clE_k E z (kd8_frames k0)) (by decide) (by decide) b25 b26 b27 b28 b29 wm_X4_19 wna_copy wst_copy win_System (by decide) (Nat.le_of_ble_eq_true rfl) dX4_become_20 ?_
  obtain ⟨s30, f31⟩ : ∃ z : Sg, z = sC s22 (r1 + 1) 0 (r0 + 1) 0 20 := ⟨_, rfl⟩
  replace h := h s30 f31
  refine J_sig f31 ?_
  have n32 : gN s30 = gN s := by rw [f31]; exact n24
  exact J_vret C (Nat.zero_le _) (Nat.zero_le _) dX4_become_23 (by rw [hF]; exact ⟨rfl, h, n32⟩)
set_option maxHeartbeats 4000000 in
set_option maxRecDepth 100000 in
theorem ct_X3_become {l : Launch} {E : ET} (hs : eS E = true) {s : Sg} {r0 : Nat} (k0 : kdO r0 = 10) {r1 : Nat} (k1 : kdO r1 = 10) {Q : Sg → Prop} (h : wp_X3_become r0 r1 s Q) : MetE l E yX3_become cX3_become 2 none rm_X3_become s [.ref (adE E r0), .ref (adE E r1)] (qV Q (gN s)) := by
  refine MetJ (by decide +kernel) (Nat.le_of_ble_eq_true rfl) ?_
  intro F hl C hF
  subst hl
  show JJ F E 0 0 s 0 [(0, .ref (adE E r0)), (1, .ref (adE E r1))] []
  refine J_aload_n C dX3_become_0 rfl 1 rfl ?_
  refine gf_X3_values C hs k1 wf_X3_13 dX3_become_1 ?_
  refine J_iconst C dX3_become_4 ?_
  refine J_aload_n C dX3_become_5 rfl 0 rfl ?_
  refine gf_X3_values C hs k0 wf_X3_13 dX3_become_6 ?_
  refine J_iconst C dX3_become_9 ?_
  refine J_aload_n C dX3_become_10 rfl 0 rfl ?_
  refine gf_X3_values C hs k0 wf_X3_13 dX3_become_11 ?_
  refine J_alen C (dmC hs (kd10_values k0) (by decide)) (n := 5) 0 rfl (clE_k E s (kd10_values k0)) dX3_become_14 ?_
  obtain ⟨b21, b22, b23, b24, b25, h⟩ := h
  refine J_copy C (dmC hs (kd10_values k1) (by decide)) (wrC hs (kd10_values k0) (by decide)) (n0 := 5) (n1 := 5) (fun z => clE_k E z (kd10_values k1)) (fun z => clE_k E z (kd10_values k0)) (by decide) (by decide) b21 b22 b23 b24 b25 wm_X3_18 wna_copy wst_copy win_System (by decide) (Nat.le_of_ble_eq_true rfl) dX3_become_15 ?_
  obtain ⟨s26, f27⟩ : ∃ z : Sg, z = sC s (r1 + 1) 0 (r0 + 1) 0 5 := ⟨_, rfl⟩
  replace h := h s26 f27
  refine J_sig f27 ?_
  have n28 : gN s26 = gN s := by rw [f27]; exact rfl
  exact J_vret C (Nat.zero_le _) (Nat.zero_le _) dX3_become_18 (by rw [hF]; exact ⟨rfl, h, n28⟩)
set_option maxHeartbeats 4000000 in
set_option maxRecDepth 100000 in
theorem ct_X6_become {l : Launch} {E : ET} (hs : eS E = true) {s : Sg} {r0 : Nat} (k0 : kdO r0 = 14) {r1 : Nat} (k1 : kdO r1 = 14) {Q : Sg → Prop} (h : wp_X6_become r0 r1 s Q) : MetE l E yX6_become cX6_become 2 none rm_X6_become s [.ref (adE E r0), .ref (adE E r1)] (qV Q (gN s)) := by
  refine MetJ (by decide +kernel) (Nat.le_of_ble_eq_true rfl) ?_
  intro F hl C hF
  subst hl
  show JJ F E 0 0 s 0 [(0, .ref (adE E r0)), (1, .ref (adE E r1))] []
  refine J_aload_n C dX6_become_0 rfl 0 rfl ?_
  refine J_aload_n C dX6_become_1 rfl 1 rfl ?_
  refine gf_X6_first C hs k1 wf_X6_16 dX6_become_2 (fun g21 => ?_)
  refine pf_X6_first C hs k0 wf_X6_16 g21 dX6_become_5 ?_
  obtain ⟨s22, f23⟩ : ∃ z : Sg, z = sI s r0 0 (gI s r1 0) := ⟨_, rfl⟩
  replace h := h s22 f23
  refine J_sig f23 ?_
  have n24 : gN s22 = gN s := by rw [f23]; exact rfl
  refine J_aload_n C dX6_become_8 rfl 0 rfl ?_
  refine J_aload_n C dX6_become_9 rfl 1 rfl ?_
  refine gf_X6_end C hs k1 wf_X6_20 dX6_become_10 (fun g25 => ?_)
  refine pf_X6_end C hs k0 wf_X6_20 g25 dX6_become_13 ?_
  obtain ⟨s26, f27⟩ : ∃ z : Sg, z = sI s22 r0 1 (gI s22 r1 1) := ⟨_, rfl⟩
  replace h := h s26 f27
  refine J_sig f27 ?_
  have n28 : gN s26 = gN s := by rw [f27]; exact n24
  refine J_aload_n C dX6_become_16 rfl 0 rfl ?_
  refine J_aload_n C dX6_become_17 rfl 1 rfl ?_
  refine gf_X6_parts C hs k1 wf_X6_23 dX6_become_18 (fun g29 => ?_)
  refine pf_X6_parts C hs k0 wf_X6_23 g29 dX6_become_21 ?_
  obtain ⟨s30, f31⟩ : ∃ z : Sg, z = sI s26 r0 2 (gI s26 r1 2) := ⟨_, rfl⟩
  replace h := h s30 f31
  refine J_sig f31 ?_
  have n32 : gN s30 = gN s := by rw [f31]; exact n28
  refine J_aload_n C dX6_become_24 rfl 0 rfl ?_
  refine J_aload_n C dX6_become_25 rfl 1 rfl ?_
  refine gf_X6_one C hs k1 wf_X6_7 dX6_become_26 (fun k33 => ?_)
  refine pf_X6_one C hs k0 wf_X6_7 k33 dX6_become_29 ?_
  obtain ⟨s34, f35⟩ : ∃ z : Sg, z = sR s30 r0 3 (gR s30 r1 3) := ⟨_, rfl⟩
  replace h := h s34 f35
  refine J_sig f35 ?_
  have n36 : gN s34 = gN s := by rw [f35]; exact n32
  refine J_aload_n C dX6_become_32 rfl 0 rfl ?_
  refine J_aload_n C dX6_become_33 rfl 1 rfl ?_
  refine gf_X6_two C hs k1 wf_X6_13 dX6_become_34 (fun k37 => ?_)
  refine pf_X6_two C hs k0 wf_X6_13 k37 dX6_become_37 ?_
  obtain ⟨s38, f39⟩ : ∃ z : Sg, z = sR s34 r0 4 (gR s34 r1 4) := ⟨_, rfl⟩
  replace h := h s38 f39
  refine J_sig f39 ?_
  have n40 : gN s38 = gN s := by rw [f39]; exact n36
  exact J_vret C (Nat.zero_le _) (Nat.zero_le _) dX6_become_40 (by rw [hF]; exact ⟨rfl, h, n40⟩)
set_option maxHeartbeats 4000000 in
set_option maxRecDepth 100000 in
theorem ct_X7_become {l : Launch} {E : ET} (hs : eS E = true) {s : Sg} {r0 : Nat} (k0 : kdO r0 = 12) {r1 : Nat} (k1 : kdO r1 = 12) {Q : Sg → Prop} (h : wp_X7_become r0 r1 s Q) : MetE l E yX7_become cX7_become 3 none rm_X7_become s [.ref (adE E r0), .ref (adE E r1)] (qV Q (gN s)) := by
  refine MetJ (by decide +kernel) (Nat.le_of_ble_eq_true rfl) ?_
  intro F hl C hF
  subst hl
  show JJ F E 0 0 s 0 [(0, .ref (adE E r0)), (1, .ref (adE E r1))] []
  refine J_aload_n C dX7_become_0 rfl 0 rfl ?_
  refine J_aload_n C dX7_become_1 rfl 1 rfl ?_
  refine gf_X7_count C hs k1 wf_X7_24 dX7_become_2 (fun g21 => ?_)
  refine pf_X7_count C hs k0 wf_X7_24 g21 dX7_become_5 ?_
  obtain ⟨s22, f23⟩ : ∃ z : Sg, z = sI s r0 2 (gI s r1 2) := ⟨_, rfl⟩
  replace h := h s22 f23
  refine J_sig f23 ?_
  have n24 : gN s22 = gN s := by rw [f23]; exact rfl
  refine J_iconst C dX7_become_8 ?_
  refine J_istore_n C dX7_become_9 rfl (by decide) (lv' := [(2, .int (jI 0)), (0, .ref (adE E r0)), (1, .ref (adE E r1))]) rfl ?_
  replace h := h (fun (x2_10 : Int) (sL10 : Sg) => rgI x2_10 → gN sL10 = gN s → JJ F E 0 0 sL10 10 [(0, .ref (adE E r0)), (1, .ref (adE E r1)), (2, .int (jI x2_10))] []) (by
    intro x2_10 sL10 h g2_10 nL10
    refine J_iload_n C dX7_become_10 rfl 2 rfl ?_
    refine J_aload_n C dX7_become_11 rfl 0 rfl ?_
    refine gf_X7_count C hs k0 wf_X7_24 dX7_become_12 (fun g25 => ?_)
    refine J_icmp_ge C g2_10 g25 (tgt := 39) dX7_become_15 (by decide) (fun q38 => ?_) (fun q38 => ?_)
    · replace h := h.1 q38
      exact J_vret C (Nat.zero_le _) (Nat.zero_le _) dX7_become_39 (by rw [hF]; exact ⟨rfl, h, nL10⟩)
    · replace h := h.2 q38
      refine J_aload_n C dX7_become_18 rfl 0 rfl ?_
      refine gf_X7_rows C hs k0 wf_X7_11 dX7_become_19 ?_
      refine J_iload_n C dX7_become_22 rfl 2 rfl ?_
      obtain ⟨b26, b27, h⟩ := h
      refine J_aald C hs (kd12_rows k0) b26 b27 dX7_become_23 (fun k28 => ?_)
      refine J_aload_n C dX7_become_24 rfl 1 rfl ?_
      refine gf_X7_rows C hs k1 wf_X7_11 dX7_become_25 ?_
      refine J_iload_n C dX7_become_28 rfl 2 rfl ?_
      obtain ⟨b29, b30, h⟩ := h
      refine J_aald C hs (kd12_rows k1) b29 b30 dX7_become_29 (fun k31 => ?_)
      refine J_V C (ct_X6_become hs k28 k31 h) ck_X6_become wm_X7_28 win_X6_become wsel_X6_become (dmC hs k28 (by decide)) (clE_k E sL10 k28) rfl ⟨rfl, rfl⟩ (by decide) (by decide) (As := [.ref (adE E (gR sL10 (r1 + 1) x2_10))]) (rest := []) rfl rfl (Nat.le_of_ble_eq_true rfl) dX7_become_30 (J_kV (fun s33 h n35 => ?_))
      have n36 : gN s33 = gN s := n35.trans (nL10)
      refine J_iinc C dX7_become_33 2 rfl (by decide) (lv' := [(2, .int (jI (x2_10 + 1))), (0, .ref (adE E r0)), (1, .ref (adE E r1))]) rfl ?_
      refine J_goto C (tgt := 10) dX7_become_36 (by decide) ?_
      obtain ⟨g37, h⟩ := h
      exact J_sub [1, 2, 0] rfl (h g37 n36)
  )
  exact J_sub [1, 2, 0] rfl (h (rgN 0 (by decide)) n24)
set_option maxHeartbeats 4000000 in
set_option maxRecDepth 100000 in
theorem ct_X5_become {l : Launch} {E : ET} (hs : eS E = true) {s : Sg} {r0 : Nat} (k0 : kdO r0 = 5) {r1 : Nat} (k1 : kdO r1 = 5) {Q : Sg → Prop} (h : wp_X5_become r0 r1 s Q) : MetE l E yX5_become cX5_become 2 none rm_X5_become s [.ref (adE E r0), .ref (adE E r1)] (qV Q (gN s)) := by
  refine MetJ (by decide +kernel) (Nat.le_of_ble_eq_true rfl) ?_
  intro F hl C hF
  subst hl
  show JJ F E 0 0 s 0 [(0, .ref (adE E r0)), (1, .ref (adE E r1))] []
  refine J_aload_n C dX5_become_0 rfl 0 rfl ?_
  refine gf_X5_cut C hs k0 wf_X5_12 dX5_become_1 ?_
  refine J_aload_n C dX5_become_4 rfl 1 rfl ?_
  refine gf_X5_cut C hs k1 wf_X5_12 dX5_become_5 ?_
  refine J_V C (ct_X0_become hs (kd5_cut k0) (kd5_cut k1) h) ck_X0_become wm_X5_41 win_X0_become wsel_X0_become (dmC hs (kd5_cut k0) (by decide)) (clE_k E s (kd5_cut k0)) rfl ⟨rfl, rfl⟩ (by decide) (by decide) (As := [.ref (adE E (r1 + 1))]) (rest := []) rfl rfl (Nat.le_of_ble_eq_true rfl) dX5_become_8 (J_kV (fun s22 h n24 => ?_))
  have n25 : gN s22 = gN s := n24
  refine J_aload_n C dX5_become_11 rfl 0 rfl ?_
  refine gf_X5_shots C hs k0 wf_X5_21 dX5_become_12 ?_
  refine J_aload_n C dX5_become_15 rfl 1 rfl ?_
  refine gf_X5_shots C hs k1 wf_X5_21 dX5_become_16 ?_
  refine J_V C (ct_X4_become hs (kd5_shots k0) (kd5_shots k1) h) ck_X4_become wm_X5_45 win_X4_become wsel_X4_become (dmC hs (kd5_shots k0) (by decide)) (clE_k E s22 (kd5_shots k0)) rfl ⟨rfl, rfl⟩ (by decide) (by decide) (As := [.ref (adE E (r1 + 4))]) (rest := []) rfl rfl (Nat.le_of_ble_eq_true rfl) dX5_become_19 (J_kV (fun s27 h n29 => ?_))
  have n30 : gN s27 = gN s := n29.trans (n25)
  refine J_aload_n C dX5_become_22 rfl 0 rfl ?_
  refine gf_X5_settings C hs k0 wf_X5_28 dX5_become_23 ?_
  refine J_aload_n C dX5_become_26 rfl 1 rfl ?_
  refine gf_X5_settings C hs k1 wf_X5_28 dX5_become_27 ?_
  refine J_V C (ct_X3_become hs (kd5_settings k0) (kd5_settings k1) h) ck_X3_become wm_X5_48 win_X3_become wsel_X3_become (dmC hs (kd5_settings k0) (by decide)) (clE_k E s27 (kd5_settings k0)) rfl ⟨rfl, rfl⟩ (by decide) (by decide) (As := [.ref (adE E (r1 + 6))]) (rest := []) rfl rfl (Nat.le_of_ble_eq_true rfl) dX5_become_30 (J_kV (fun s32 h n34 => ?_))
  have n35 : gN s32 = gN s := n34.trans (n30)
  refine J_aload_n C dX5_become_33 rfl 0 rfl ?_
  refine gf_X5_track C hs k0 wf_X5_37 dX5_become_34 ?_
  refine J_aload_n C dX5_become_37 rfl 1 rfl ?_
  refine gf_X5_track C hs k1 wf_X5_37 dX5_become_38 ?_
  refine J_V C (ct_X7_become hs (kd5_track k0) (kd5_track k1) h) ck_X7_become wm_X5_51 win_X7_become wsel_X7_become (dmC hs (kd5_track k0) (by decide)) (clE_k E s32 (kd5_track k0)) rfl ⟨rfl, rfl⟩ (by decide) (by decide) (As := [.ref (adE E (r1 + 8))]) (rest := []) rfl rfl (Nat.le_of_ble_eq_true rfl) dX5_become_41 (J_kV (fun s37 h n39 => ?_))
  have n40 : gN s37 = gN s := n39.trans (n35)
  exact J_vret C (Nat.zero_le _) (Nat.zero_le _) dX5_become_44 (by rw [hF]; exact ⟨rfl, h, n40⟩)
set_option maxHeartbeats 4000000 in
set_option maxRecDepth 100000 in
theorem ct_X1_record {l : Launch} {E : ET} (hs : eS E = true) {s : Sg} {r1 : Nat} (k1 : kdO r1 = 5) {Q : Sg → Prop} (h : wp_X1_record r1 s Q) : MetE l E yX1_record cX1_record 2 none rm_X1_record s [.ref (adE E 61), .ref (adE E r1)] (qV Q (gN s)) := by
  refine MetJ (by decide +kernel) (Nat.le_of_ble_eq_true rfl) ?_
  intro F hl C hF
  subst hl
  show JJ F E 0 0 s 0 [(0, .ref (adE E 61)), (1, .ref (adE E r1))] []
  have j16 : ∀ (r1 : Nat) (sj : Sg), wj_X1_record_16   r1 sj Q → kdO r1 = 5 → gN sj = gN s → JJ F E 0 0 sj 16 [(0, .ref (adE E 61)), (1, .ref (adE E r1))] [] := by
    intro r1 sj h k1 nj
    refine J_aload_n C dX1_record_16 rfl 0 rfl ?_
    refine gf_X1_states C hs wf_X1_11 dX1_record_17 ?_
    refine J_aload_n C dX1_record_20 rfl 0 rfl ?_
    refine gf_X1_count C hs wf_X1_20 dX1_record_21 (fun g22 => ?_)
    obtain ⟨b23, b24, h⟩ := h
    refine J_aaldT C hs b23 b24 dX1_record_24 (fun k25 => ?_)
    refine J_aload_n C dX1_record_25 rfl 1 rfl ?_
    refine J_V C (ct_X5_become hs k25 k1 h) ck_X5_become wm_X1_27 win_X5_become wsel_X5_become (dmC hs k25 (by decide)) (clE_k E sj k25) rfl ⟨rfl, rfl⟩ (by decide) (by decide) (As := [.ref (adE E r1)]) (rest := []) rfl rfl (Nat.le_of_ble_eq_true rfl) dX1_record_26 (J_kV (fun s27 h n29 => ?_))
    have n30 : gN s27 = gN s := n29.trans (nj)
    refine J_aload_n C dX1_record_29 rfl 0 rfl ?_
    refine J_dup C dX1_record_30 rfl ?_
    refine gf_X1_count C hs wf_X1_20 dX1_record_31 (fun g31 => ?_)
    refine J_iconst C dX1_record_34 ?_
    refine J_iadd C dX1_record_35 ?_
    obtain ⟨g34, h⟩ := h
    refine pf_X1_count C hs wf_X1_20 g34 dX1_record_36 ?_
    obtain ⟨s32, f33⟩ : ∃ z : Sg, z = sI s27 61 1 ((gI s27 61 1) + 1) := ⟨_, rfl⟩
    replace h := h s32 f33
    refine J_sig f33 ?_
    have n35 : gN s32 = gN s := by rw [f33]; exact n30
    exact J_vret C (Nat.zero_le _) (Nat.zero_le _) dX1_record_39 (by rw [hF]; exact ⟨rfl, h, n35⟩)
  refine J_aload_n C dX1_record_0 rfl 0 rfl ?_
  refine gf_X1_count C hs wf_X1_20 dX1_record_1 (fun g21 => ?_)
  refine J_aload_n C dX1_record_4 rfl 0 rfl ?_
  refine gf_X1_states C hs wf_X1_11 dX1_record_5 ?_
  refine J_alen C (dmC hs kc62 (by decide)) (n := 8) 3 rfl (clE_k E s kc62) dX1_record_8 ?_
  refine J_icmp_lt C g21 (rgN 8 (by decide)) (tgt := 16) dX1_record_9 (by decide) (fun q41 => ?_) (fun q41 => ?_)
  · replace h := h.1 q41
    exact J_sub [0, 1] rfl (j16 _ _ h k1 rfl)
  · replace h := h.2 q41
    refine J_aload_n C dX1_record_12 rfl 0 rfl ?_
    refine J_V C (ct_X1_forgetOldest hs h) ck_X1_forgetOldest wm_X1_24 win_X1_forgetOldest wsel_X1_forgetOldest (dmC hs kc61 (by decide)) (clE_k E s kc61) rfl ⟨rfl, rfl⟩ (by decide) (by decide) (As := []) (rest := []) rfl rfl (Nat.le_of_ble_eq_true rfl) dX1_record_13 (J_kV (fun s37 h n39 => ?_))
    have n40 : gN s37 = gN s := n39
    exact J_sub [0, 1] rfl (j16 _ _ h k1 n40)
set_option maxHeartbeats 4000000 in
set_option maxRecDepth 100000 in
theorem ct_X1_restore {l : Launch} {E : ET} (hs : eS E = true) {s : Sg} {r1 : Nat} (k1 : kdO r1 = 5) {Q : Sg → Prop} (h : wp_X1_restore r1 s Q) : MetE l E yX1_restore cX1_restore 2 none rm_X1_restore s [.ref (adE E 61), .ref (adE E r1)] (qV Q (gN s)) := by
  refine MetJ (by decide +kernel) (Nat.le_of_ble_eq_true rfl) ?_
  intro F hl C hF
  subst hl
  show JJ F E 0 0 s 0 [(0, .ref (adE E 61)), (1, .ref (adE E r1))] []
  refine J_aload_n C dX1_restore_0 rfl 0 rfl ?_
  refine gf_X1_count C hs wf_X1_20 dX1_restore_1 (fun g21 => ?_)
  refine J_if_gt C g21 (tgt := 8) dX1_restore_4 (by decide) (fun q36 => ?_) (fun q36 => ?_)
  · replace h := h.1 q36
    refine J_aload_n C dX1_restore_8 rfl 0 rfl ?_
    refine J_dup C dX1_restore_9 rfl ?_
    refine gf_X1_count C hs wf_X1_20 dX1_restore_10 (fun g22 => ?_)
    refine J_iconst C dX1_restore_13 ?_
    refine J_isub C dX1_restore_14 ?_
    obtain ⟨g25, h⟩ := h
    refine pf_X1_count C hs wf_X1_20 g25 dX1_restore_15 ?_
    obtain ⟨s23, f24⟩ : ∃ z : Sg, z = sI s 61 1 ((gI s 61 1) - 1) := ⟨_, rfl⟩
    replace h := h s23 f24
    refine J_sig f24 ?_
    have n26 : gN s23 = gN s := by rw [f24]; exact rfl
    refine J_aload_n C dX1_restore_18 rfl 1 rfl ?_
    refine J_aload_n C dX1_restore_19 rfl 0 rfl ?_
    refine gf_X1_states C hs wf_X1_11 dX1_restore_20 ?_
    refine J_aload_n C dX1_restore_23 rfl 0 rfl ?_
    refine gf_X1_count C hs wf_X1_20 dX1_restore_24 (fun g27 => ?_)
    obtain ⟨b28, b29, h⟩ := h
    refine J_aaldT C hs b28 b29 dX1_restore_27 (fun k30 => ?_)
    refine J_V C (ct_X5_become hs k1 k30 h) ck_X5_become wm_X1_27 win_X5_become wsel_X5_become (dmC hs k1 (by decide)) (clE_k E s23 k1) rfl ⟨rfl, rfl⟩ (by decide) (by decide) (As := [.ref (adE E (gR s23 62 (gI s23 61 1)))]) (rest := []) rfl rfl (Nat.le_of_ble_eq_true rfl) dX1_restore_28 (J_kV (fun s32 h n34 => ?_))
    have n35 : gN s32 = gN s := n34.trans (n26)
    exact J_vret C (Nat.zero_le _) (Nat.zero_le _) dX1_restore_31 (by rw [hF]; exact ⟨rfl, h, n35⟩)
  · replace h := h.2 q36
    exact J_vret C (Nat.zero_le _) (Nat.zero_le _) dX1_restore_7 (by rw [hF]; exact ⟨rfl, h, rfl⟩)
set_option maxHeartbeats 4000000 in
set_option maxRecDepth 100000 in
theorem ct_X2_bytes {l : Launch} {E : ET} (hs : eS E = true) {s : Sg} {r0 : Nat} (k0 : okP s r0) {Q : Int → Prop} (h : wp_X2_bytes r0 s Q) : MetE l E yX2_bytes cX2_bytes 1 (some .int) rm_X2_bytes s [.ref (adE E r0)] (qI (fun r t => Q r ∧ t = s) (gN s)) := by
  refine MetJ (by decide +kernel) (Nat.le_of_ble_eq_true rfl) ?_
  intro F hl C hF
  subst hl
  show JJ F E 0 0 s 0 [(0, .ref (adE E r0))] []
  refine J_aload_n C dX2_bytes_0 rfl 0 rfl ?_
  refine gf_X2_text C hs k0 wf_X2_24 dX2_bytes_1 ?_
  refine J_alenT C hs k0 dX2_bytes_4 (fun g21 => ?_)
  exact J_iret C (Nat.zero_le _) (Nat.zero_le _) dX2_bytes_5 (by rw [hF]; exact ⟨_, rfl, g21, ⟨h, rfl⟩, rfl⟩)
set_option maxHeartbeats 4000000 in
set_option maxRecDepth 100000 in
theorem ct_X2_byteAt {l : Launch} {E : ET} (hs : eS E = true) {s : Sg} {r0 : Nat} (k0 : okP s r0) {x1 : Int} (g1 : rgI x1) {Q : Int → Prop} (h : wp_X2_byteAt r0 x1 s Q) : MetE l E yX2_byteAt cX2_byteAt 2 (some .int) rm_X2_byteAt s [.ref (adE E r0), .int (jI x1)] (qI (fun r t => Q r ∧ t = s) (gN s)) := by
  refine MetJ (by decide +kernel) (Nat.le_of_ble_eq_true rfl) ?_
  intro F hl C hF
  subst hl
  show JJ F E 0 0 s 0 [(0, .ref (adE E r0)), (1, .int (jI x1))] []
  refine J_iload_n C dX2_byteAt_0 rfl 1 rfl ?_
  refine J_if_lt C g1 (tgt := 22) dX2_byteAt_1 (by decide) (fun q26 => ?_) (fun q26 => ?_)
  · replace h := h.1 q26
    refine J_bipush C dX2_byteAt_22 (by decide) ?_
    exact J_iret C (Nat.zero_le _) (Nat.zero_le _) dX2_byteAt_24 (by rw [hF]; exact ⟨_, rfl, (rgN (-9) (by decide)), ⟨h, rfl⟩, rfl⟩)
  · replace h := h.2 q26
    refine J_iload_n C dX2_byteAt_4 rfl 1 rfl ?_
    refine J_aload_n C dX2_byteAt_5 rfl 0 rfl ?_
    refine gf_X2_text C hs k0 wf_X2_24 dX2_byteAt_6 ?_
    refine J_alenT C hs k0 dX2_byteAt_9 (fun g21 => ?_)
    refine J_icmp_ge C g1 g21 (tgt := 22) dX2_byteAt_10 (by decide) (fun q25 => ?_) (fun q25 => ?_)
    · replace h := h.1 q25
      refine J_bipush C dX2_byteAt_22 (by decide) ?_
      exact J_iret C (Nat.zero_le _) (Nat.zero_le _) dX2_byteAt_24 (by rw [hF]; exact ⟨_, rfl, (rgN (-9) (by decide)), ⟨h, rfl⟩, rfl⟩)
    · replace h := h.2 q25
      refine J_aload_n C dX2_byteAt_13 rfl 0 rfl ?_
      refine gf_X2_text C hs k0 wf_X2_24 dX2_byteAt_14 ?_
      refine J_iload_n C dX2_byteAt_17 rfl 1 rfl ?_
      obtain ⟨b22, b23, h⟩ := h
      refine J_baldT C hs k0 b22 b23 dX2_byteAt_18 (fun g24 => ?_)
      refine J_goto C (tgt := 24) dX2_byteAt_19 (by decide) ?_
      exact J_iret C (Nat.zero_le _) (Nat.zero_le _) dX2_byteAt_24 (by rw [hF]; exact ⟨_, rfl, g24, ⟨h, rfl⟩, rfl⟩)
set_option maxHeartbeats 4000000 in
set_option maxRecDepth 100000 in
theorem ct_X2_longerLine {l : Launch} {E : ET} (hs : eS E = true) {s : Sg} {r0 : Nat} (k0 : okP s r0) {x1 : Int} (g1 : rgI x1) {Q : Int → Prop} (h : wp_X2_longerLine r0 x1 s Q) : MetE l E yX2_longerLine cX2_longerLine 3 (some .int) rm_X2_longerLine s [.ref (adE E r0), .int (jI x1)] (qI (fun r t => Q r ∧ t = s) (gN s)) := by
  refine MetJ (by decide +kernel) (Nat.le_of_ble_eq_true rfl) ?_
  intro F hl C hF
  subst hl
  show JJ F E 0 0 s 0 [(0, .ref (adE E r0)), (1, .int (jI x1))] []
  refine J_aload_n C dX2_longerLine_0 rfl 0 rfl ?_
  refine gf_X2_text C hs k0 wf_X2_24 dX2_longerLine_1 ?_
  refine J_alenT C hs k0 dX2_longerLine_4 (fun g21 => ?_)
  refine J_iconst C dX2_longerLine_5 ?_
  refine J_isub C dX2_longerLine_6 ?_
  refine J_iload_n C dX2_longerLine_7 rfl 1 rfl ?_
  refine J_isub C dX2_longerLine_8 ?_
  obtain ⟨x2_9, e22⟩ : ∃ v : Int, v = (((gL s (r0 + 1)) - 1) - x1) := ⟨_, rfl⟩
  obtain ⟨g2_9, h⟩ := h x2_9 e22
  refine J_top e22 ?_
  refine J_istore_n C dX2_longerLine_9 rfl (by decide) (lv' := [(2, .int (jI x2_9)), (0, .ref (adE E r0)), (1, .int (jI x1))]) rfl ?_
  refine J_iload_n C dX2_longerLine_10 rfl 2 rfl ?_
  refine J_iload_n C dX2_longerLine_11 rfl 0 rfl ?_
  refine J_icmp_le C g1 g2_9 (tgt := 19) dX2_longerLine_12 (by decide) (fun q23 => ?_) (fun q23 => ?_)
  · replace h := h.1 q23
    refine J_iload_n C dX2_longerLine_19 rfl 0 rfl ?_
    exact J_iret C (Nat.zero_le _) (Nat.zero_le _) dX2_longerLine_20 (by rw [hF]; exact ⟨_, rfl, g2_9, ⟨h, rfl⟩, rfl⟩)
  · replace h := h.2 q23
    refine J_iload_n C dX2_longerLine_15 rfl 2 rfl ?_
    refine J_goto C (tgt := 20) dX2_longerLine_16 (by decide) ?_
    exact J_iret C (Nat.zero_le _) (Nat.zero_le _) dX2_longerLine_20 (by rw [hF]; exact ⟨_, rfl, g1, ⟨h, rfl⟩, rfl⟩)
set_option maxHeartbeats 4000000 in
set_option maxRecDepth 100000 in
theorem ct_X2_isWord {l : Launch} {E : ET} (hs : eS E = true) {s : Sg} {r0 : Nat} (k0 : okP s r0) {x1 : Int} (g1 : rgI x1) {z2 : Nat} (k2 : z2 < 3) {Q : Int → Prop} (h : wp_X2_isWord r0 x1 z2 s Q) : MetE l E yX2_isWord cX2_isWord 4 (some .boolean) rm_X2_isWord s [.ref (adE E r0), .int (jI x1), .ref (ea E z2)] (qZ (fun r t => Q r ∧ t = s) (gN s)) := by
  refine MetJ (by decide +kernel) (Nat.le_of_ble_eq_true rfl) ?_
  intro F hl C hF
  subst hl
  show JJ F E 0 0 s 0 [(0, .ref (adE E r0)), (1, .int (jI x1)), (2, .ref (ea E z2))] []
  refine J_iconst C dX2_isWord_0 ?_
  refine J_istore_n C dX2_isWord_1 rfl (by decide) (lv' := [(3, .int (jI 0)), (0, .ref (adE E r0)), (1, .int (jI x1)), (2, .ref (ea E z2))]) rfl ?_
  replace h := h (fun (x3_2 : Int) => rgI x3_2 → JJ F E 0 0 s 2 [(0, .ref (adE E r0)), (1, .int (jI x1)), (2, .ref (ea E z2)), (3, .int (jI x3_2))] []) (by
    intro x3_2 h g3_2
    refine J_iload_n C dX2_isWord_2 rfl 3 rfl ?_
    refine J_aload_n C dX2_isWord_3 rfl 2 rfl ?_
    refine J_strLen C k2 wm_X2_54 (by decide) (Nat.le_of_ble_eq_true rfl) (by decide) dX2_isWord_4 ?_
    refine J_icmp_ge C g3_2 (strL_rg z2) (tgt := 33) dX2_isWord_7 (by decide) (fun q37 => ?_) (fun q37 => ?_)
    · replace h := h.1 q37
      refine J_aload_n C dX2_isWord_33 rfl 0 rfl ?_
      refine J_iload_n C dX2_isWord_34 rfl 1 rfl ?_
      refine J_aload_n C dX2_isWord_35 rfl 2 rfl ?_
      refine J_strLen C k2 wm_X2_54 (by decide) (Nat.le_of_ble_eq_true rfl) (by decide) dX2_isWord_36 ?_
      refine J_iadd C dX2_isWord_39 ?_
      obtain ⟨g21, h⟩ := h
      refine J_V C (ct_X2_byteAt hs k0 g21 h) ck_X2_byteAt wm_X2_41 win_X2_byteAt wsel_X2_byteAt (dm_p hs k0) (clE_k E s k0.1) rfl ⟨rfl, rfl⟩ (by decide) (by decide) (As := [.int (jI (x1 + (strL z2)))]) (rest := []) rfl rfl (Nat.le_of_ble_eq_true rfl) dX2_isWord_40 (J_pI (fun v22 g24 h => ?_))
      refine J_istore_n C dX2_isWord_43 rfl (by decide) (lv' := [(3, .int (jI v22)), (0, .ref (adE E r0)), (1, .int (jI x1)), (2, .ref (ea E z2))]) rfl ?_
      refine J_iload_n C dX2_isWord_44 rfl 0 rfl ?_
      refine J_bipush C dX2_isWord_45 (by decide) ?_
      refine J_icmp_eq C g24 (rgN 32 (by decide)) (tgt := 56) dX2_isWord_47 (by decide) (fun q27 => ?_) (fun q27 => ?_)
      · replace h := h.1 q27
        refine J_iconst C dX2_isWord_56 ?_
        refine J_goto C (tgt := 61) dX2_isWord_57 (by decide) ?_
        exact J_zret C (Nat.zero_le _) (Nat.zero_le _) (nar_z (Or.inr rfl)) dX2_isWord_61 (by rw [hF]; exact ⟨_, rfl, (Or.inr rfl), ⟨h, rfl⟩, rfl⟩)
      · replace h := h.2 q27
        refine J_iload_n C dX2_isWord_50 rfl 0 rfl ?_
        refine J_bipush C dX2_isWord_51 (by decide) ?_
        refine J_icmp_ne C g24 (rgN (-9) (by decide)) (tgt := 60) dX2_isWord_53 (by decide) (fun q26 => ?_) (fun q26 => ?_)
        · replace h := h.2 q26
          refine J_iconst C dX2_isWord_60 ?_
          exact J_zret C (Nat.zero_le _) (Nat.zero_le _) (nar_z (Or.inl rfl)) dX2_isWord_61 (by rw [hF]; exact ⟨_, rfl, (Or.inl rfl), ⟨h, rfl⟩, rfl⟩)
        · replace h := h.1 q26
          refine J_iconst C dX2_isWord_56 ?_
          refine J_goto C (tgt := 61) dX2_isWord_57 (by decide) ?_
          exact J_zret C (Nat.zero_le _) (Nat.zero_le _) (nar_z (Or.inr rfl)) dX2_isWord_61 (by rw [hF]; exact ⟨_, rfl, (Or.inr rfl), ⟨h, rfl⟩, rfl⟩)
    · replace h := h.2 q37
      refine J_aload_n C dX2_isWord_10 rfl 0 rfl ?_
      refine J_iload_n C dX2_isWord_11 rfl 1 rfl ?_
      refine J_iload_n C dX2_isWord_12 rfl 3 rfl ?_
      refine J_iadd C dX2_isWord_13 ?_
      obtain ⟨g28, h⟩ := h
      refine J_V C (ct_X2_byteAt hs k0 g28 h) ck_X2_byteAt wm_X2_41 win_X2_byteAt wsel_X2_byteAt (dm_p hs k0) (clE_k E s k0.1) rfl ⟨rfl, rfl⟩ (by decide) (by decide) (As := [.int (jI (x1 + x3_2))]) (rest := []) rfl rfl (Nat.le_of_ble_eq_true rfl) dX2_isWord_14 (J_pI (fun v29 g31 h => ?_))
      refine J_aload_n C dX2_isWord_17 rfl 2 rfl ?_
      refine J_iload_n C dX2_isWord_18 rfl 3 rfl ?_
      obtain ⟨b33, b34, h⟩ := h
      refine J_charAt C k2 b33 b34 wm_X2_60 (by decide) (Nat.le_of_ble_eq_true rfl) (by decide) dX2_isWord_19 ?_
      refine J_icmp_eq C g31 (strC_rg z2 x3_2) (tgt := 27) dX2_isWord_22 (by decide) (fun q36 => ?_) (fun q36 => ?_)
      · replace h := h.1 q36
        refine J_iinc C dX2_isWord_27 3 rfl (by decide) (lv' := [(3, .int (jI (x3_2 + 1))), (0, .ref (adE E r0)), (1, .int (jI x1)), (2, .ref (ea E z2))]) rfl ?_
        refine J_goto C (tgt := 2) dX2_isWord_30 (by decide) ?_
        obtain ⟨g35, h⟩ := h
        exact J_sub [1, 2, 3, 0] rfl (h g35)
      · replace h := h.2 q36
        refine J_iconst C dX2_isWord_25 ?_
        exact J_zret C (Nat.zero_le _) (Nat.zero_le _) (nar_z (Or.inl rfl)) dX2_isWord_26 (by rw [hF]; exact ⟨_, rfl, (Or.inl rfl), ⟨h, rfl⟩, rfl⟩)
  )
  exact J_sub [1, 2, 3, 0] rfl (h (rgN 0 (by decide)))
