/-! the law: contracts (printed by wip/p26/gen/emit26.py) -/
set_option maxHeartbeats 4000000 in
set_option maxRecDepth 100000 in
theorem ct_L_whole {l : Launch} {E0 E : ET} (hE : E = mE E0 0 false) (hs : eS E = true) {s : Sg} {Q : Int → Sg → Prop} (h : wp_L_whole s Q) : MetG l E yL_whole cL_whole 5 (some .boolean) rm_L_whole s [.ref (adE E 0)] (qZ Q (gN s)) 1 7 := by
  refine MetGJ (by decide +kernel) (Nat.le_of_ble_eq_true rfl) ?_
  intro F hl C hF hA hmc hms _
  subst hl
  have hAF : ∀ a, adA E s a → fA F a := fun a ha => by rw [hA]; exact ha
  show JJ F E 0 0 s 0 [(0, .ref (adE E 0))] []
  have j19 : ∀ (t0_19 : Int) (sj : Sg), wj_L_whole_19   t0_19 sj Q → rgI t0_19 → gN sj = gN s → JJ F E 1 7 sj 19 [(0, .ref (adE E 0))] [.int (jI t0_19)] := by
    intro t0_19 sj h gt0_19 nj
    refine J_istore_n C dL_whole_19 rfl (by decide) (lv' := [(1, .int (jI t0_19)), (0, .ref (adE E 0))]) rfl ?_
    refine J_iconst C dL_whole_20 ?_
    refine J_istore_n C dL_whole_21 rfl (by decide) (lv' := [(2, .int (jI 0)), (1, .int (jI t0_19)), (0, .ref (adE E 0))]) rfl ?_
    replace h := h (fun (x1_22 : Int) (x2_22 : Int) => rgI x1_22 → rgI x2_22 → JJ F E 1 7 sj 22 [(0, .ref (adE E 0)), (1, .int (jI x1_22)), (2, .int (jI x2_22))] []) (by
      intro x1_22 x2_22 h g1_22 g2_22
      have j182 : ∀ (x2 : Int) (t0_182 : Int), wj_L_whole_182 (fun (x1_22 : Int) (x2_22 : Int) => rgI x1_22 → rgI x2_22 → JJ F E 1 7 sj 22 [(0, .ref (adE E 0)), (1, .int (jI x1_22)), (2, .int (jI x2_22))] [])  x2 t0_182 sj Q → rgI x2 → rgI t0_182 → JJ F E 1 7 sj 182 [(0, .ref (adE E 0)), (2, .int (jI x2))] [.int (jI t0_182)] := by
        intro x2 t0_182 h g2 gt0_182
        refine J_istore_n C dL_whole_182 rfl (by decide) (lv' := [(1, .int (jI t0_182)), (0, .ref (adE E 0)), (2, .int (jI x2))]) rfl ?_
        refine J_iinc C dL_whole_183 2 rfl (by decide) (lv' := [(2, .int (jI (x2 + 1))), (1, .int (jI t0_182)), (0, .ref (adE E 0))]) rfl ?_
        refine J_goto C (tgt := 22) dL_whole_186 (by decide) ?_
        obtain ⟨g52, h⟩ := h
        exact J_sub [2, 1, 0] rfl (h gt0_182 g52)
      have j181 : ∀ (x2 : Int), wj_L_whole_181 (fun (x1_22 : Int) (x2_22 : Int) => rgI x1_22 → rgI x2_22 → JJ F E 1 7 sj 22 [(0, .ref (adE E 0)), (1, .int (jI x1_22)), (2, .int (jI x2_22))] [])  x2 sj Q → rgI x2 → JJ F E 1 7 sj 181 [(0, .ref (adE E 0)), (2, .int (jI x2))] [] := by
        intro x2 h g2
        refine J_iconst C dL_whole_181 ?_
        exact J_sub [0, 1] rfl (j182 _ _ h g2 (rgN 0 (by decide)))
      have j174 : ∀ (x2 : Int) (t0_174 : Int) (t1_174 : Int), wj_L_whole_174 (fun (x1_22 : Int) (x2_22 : Int) => rgI x1_22 → rgI x2_22 → JJ F E 1 7 sj 22 [(0, .ref (adE E 0)), (1, .int (jI x1_22)), (2, .int (jI x2_22))] [])  x2 t0_174 t1_174 sj Q → rgI x2 → rgI t0_174 → rgI t1_174 → JJ F E 1 7 sj 174 [(0, .ref (adE E 0)), (2, .int (jI x2))] [.int (jI t0_174), .int (jI t1_174)] := by
        intro x2 t0_174 t1_174 h g2 gt0_174 gt1_174
        refine J_icmp_ne C gt1_174 gt0_174 (tgt := 181) dL_whole_174 (by decide) (fun q74 => ?_) (fun q74 => ?_)
        · replace h := h.2 q74
          exact J_sub [0, 1] rfl (j181 _ h g2)
        · replace h := h.1 q74
          refine J_iconst C dL_whole_177 ?_
          refine J_goto C (tgt := 182) dL_whole_178 (by decide) ?_
          exact J_sub [0, 1] rfl (j182 _ _ h g2 (rgN 1 (by decide)))
      have j108 : ∀ (x1 : Int) (x2 : Int) (t0_108 : Int), wj_L_whole_108 (fun (x1_22 : Int) (x2_22 : Int) => rgI x1_22 → rgI x2_22 → JJ F E 1 7 sj 22 [(0, .ref (adE E 0)), (1, .int (jI x1_22)), (2, .int (jI x2_22))] [])  x1 x2 t0_108 sj Q → rgI x1 → rgI x2 → rgI t0_108 → JJ F E 1 7 sj 108 [(0, .ref (adE E 0)), (1, .int (jI x1)), (2, .int (jI x2))] [.int (jI t0_108)] := by
        intro x1 x2 t0_108 h g1 g2 gt0_108
        refine J_istore_n C dL_whole_108 rfl (by decide) (lv' := [(3, .int (jI t0_108)), (0, .ref (adE E 0)), (1, .int (jI x1)), (2, .int (jI x2))]) rfl ?_
        refine J_aload_n C dL_whole_109 rfl 1 rfl ?_
        refine J_iload_n C dL_whole_110 rfl 3 rfl ?_
        refine J_iconst C dL_whole_111 ?_
        refine J_iconst C dL_whole_112 ?_
        refine J_V C (ct_X9_part hs g2 (rgN 0 (by decide)) (rgN 1 (by decide)) h) ck_X9_part wm_L_59 win_X9_part wsel_X9_part (dmC hs kc0 (by decide)) (clE_k E sj kc0) rfl ⟨rfl, rfl⟩ (by decide) (by decide) (As := [.int (jI x2), .int (jI 0), .int (jI 1)]) (rest := []) rfl rfl (Nat.le_of_ble_eq_true rfl) dL_whole_113 (J_pI (fun v43 g45 h => ?_))
        refine J_iload_n C dL_whole_116 rfl 0 rfl ?_
        refine J_iadd C dL_whole_117 ?_
        refine J_aload_n C dL_whole_118 rfl 1 rfl ?_
        refine J_iconst C dL_whole_119 ?_
        refine J_V C (ct_X9_told hs (rgN 0 (by decide)) h) ck_X9_told wm_L_47 win_X9_told wsel_X9_told (dmC hs kc0 (by decide)) (clE_k E sj kc0) rfl ⟨rfl, rfl⟩ (by decide) (by decide) (As := [.int (jI 0)]) (rest := [.int (jI (v43 + t0_108))]) rfl rfl (Nat.le_of_ble_eq_true rfl) dL_whole_120 (J_pI (fun v47 g49 h => ?_))
        refine J_imul C dL_whole_123 ?_
        obtain ⟨x4_124, e51⟩ : ∃ v : Int, v = ((v43 + t0_108) * v47) := ⟨_, rfl⟩
        obtain ⟨g4_124, h⟩ := h x4_124 e51
        refine J_top e51 ?_
        refine J_istore C dL_whole_124 (by decide) (lv' := [(4, .int (jI x4_124)), (3, .int (jI t0_108)), (0, .ref (adE E 0)), (1, .int (jI x1)), (2, .int (jI x2))]) rfl ?_
        refine J_iload_n C dL_whole_126 rfl 3 rfl ?_
        refine J_if_eq C g1 (tgt := 181) dL_whole_127 (by decide) (fun q77 => ?_) (fun q77 => ?_)
        · replace h := h.1 q77
          exact J_sub [2, 4] rfl (j181 _ h g2)
        · replace h := h.2 q77
          refine J_aload_n C dL_whole_130 rfl 2 rfl ?_
          refine J_iload_n C dL_whole_131 rfl 4 rfl ?_
          refine J_iconst C dL_whole_132 ?_
          refine J_V C (ct_X9_subtitle hs g2 (rgN 3 (by decide)) h) ck_X9_subtitle wm_L_33 win_X9_subtitle wsel_X9_subtitle (dmC hs kc0 (by decide)) (clE_k E sj kc0) rfl ⟨rfl, rfl⟩ (by decide) (by decide) (As := [.int (jI x2), .int (jI 3)]) (rest := []) rfl rfl (Nat.le_of_ble_eq_true rfl) dL_whole_133 (J_pI (fun v53 g55 h => ?_))
          refine J_aload_n C dL_whole_136 rfl 2 rfl ?_
          refine J_iload_n C dL_whole_137 rfl 4 rfl ?_
          refine J_iconst C dL_whole_138 ?_
          refine J_iconst C dL_whole_139 ?_
          refine J_V C (ct_X9_part hs g2 (rgN 0 (by decide)) (rgN 1 (by decide)) h) ck_X9_part wm_L_59 win_X9_part wsel_X9_part (dmC hs kc0 (by decide)) (clE_k E sj kc0) rfl ⟨rfl, rfl⟩ (by decide) (by decide) (As := [.int (jI x2), .int (jI 0), .int (jI 1)]) (rest := [.int (jI v53)]) rfl rfl (Nat.le_of_ble_eq_true rfl) dL_whole_140 (J_pI (fun v57 g59 h => ?_))
          refine J_iload_n C dL_whole_143 rfl 1 rfl ?_
          refine J_iadd C dL_whole_144 ?_
          obtain ⟨g61, h⟩ := h
          refine J_icmp_ne C g55 g61 (tgt := 181) dL_whole_145 (by decide) (fun q76 => ?_) (fun q76 => ?_)
          · replace h := h.2 q76
            exact J_sub [2, 4] rfl (j181 _ h g2)
          · replace h := h.1 q76
            refine J_aload_n C dL_whole_148 rfl 2 rfl ?_
            refine J_iload_n C dL_whole_149 rfl 4 rfl ?_
            refine J_iconst C dL_whole_150 ?_
            refine J_V C (ct_X9_subtitle hs g2 (rgN 4 (by decide)) h) ck_X9_subtitle wm_L_33 win_X9_subtitle wsel_X9_subtitle (dmC hs kc0 (by decide)) (clE_k E sj kc0) rfl ⟨rfl, rfl⟩ (by decide) (by decide) (As := [.int (jI x2), .int (jI 4)]) (rest := []) rfl rfl (Nat.le_of_ble_eq_true rfl) dL_whole_151 (J_pI (fun v62 g64 h => ?_))
            refine J_iload C dL_whole_154 0 rfl ?_
            refine J_aload_n C dL_whole_156 rfl 2 rfl ?_
            refine J_iconst C dL_whole_157 ?_
            refine J_V C (ct_X9_told hs (rgN 1 (by decide)) h) ck_X9_told wm_L_47 win_X9_told wsel_X9_told (dmC hs kc0 (by decide)) (clE_k E sj kc0) rfl ⟨rfl, rfl⟩ (by decide) (by decide) (As := [.int (jI 1)]) (rest := [.int (jI x4_124), .int (jI v62)]) rfl rfl (Nat.le_of_ble_eq_true rfl) dL_whole_158 (J_pI (fun v66 g68 h => ?_))
            refine J_icmp_le C g4_124 g68 (tgt := 169) dL_whole_161 (by decide) (fun q75 => ?_) (fun q75 => ?_)
            · replace h := h.1 q75
              refine J_aload_n C dL_whole_169 rfl 2 rfl ?_
              refine J_iconst C dL_whole_170 ?_
              refine J_V C (ct_X9_told hs (rgN 1 (by decide)) h) ck_X9_told wm_L_47 win_X9_told wsel_X9_told (dmC hs kc0 (by decide)) (clE_k E sj kc0) rfl ⟨rfl, rfl⟩ (by decide) (by decide) (As := [.int (jI 1)]) (rest := [.int (jI v62)]) rfl rfl (Nat.le_of_ble_eq_true rfl) dL_whole_171 (J_pI (fun v70 g72 h => ?_))
              exact J_sub [2, 4] rfl (j174 _ _ _ h g2 g72 g64)
            · replace h := h.2 q75
              refine J_iload C dL_whole_164 0 rfl ?_
              refine J_goto C (tgt := 174) dL_whole_166 (by decide) ?_
              exact J_sub [2, 4] rfl (j174 _ _ _ h g2 g4_124 g64)
      have j84 : ∀ (x2 : Int) (t0_84 : Int), wj_L_whole_84 (fun (x1_22 : Int) (x2_22 : Int) => rgI x1_22 → rgI x2_22 → JJ F E 1 7 sj 22 [(0, .ref (adE E 0)), (1, .int (jI x1_22)), (2, .int (jI x2_22))] [])  x2 t0_84 sj Q → rgI x2 → rgI t0_84 → JJ F E 1 7 sj 84 [(0, .ref (adE E 0)), (2, .int (jI x2))] [.int (jI t0_84)] := by
        intro x2 t0_84 h g2 gt0_84
        refine J_istore_n C dL_whole_84 rfl (by decide) (lv' := [(1, .int (jI t0_84)), (0, .ref (adE E 0)), (2, .int (jI x2))]) rfl ?_
        refine J_aload_n C dL_whole_85 rfl 1 rfl ?_
        refine J_iload_n C dL_whole_86 rfl 2 rfl ?_
        refine J_iconst C dL_whole_87 ?_
        refine J_V C (ct_X9_subtitle hs g2 (rgN 2 (by decide)) h) ck_X9_subtitle wm_L_33 win_X9_subtitle wsel_X9_subtitle (dmC hs kc0 (by decide)) (clE_k E sj kc0) rfl ⟨rfl, rfl⟩ (by decide) (by decide) (As := [.int (jI x2), .int (jI 2)]) (rest := []) rfl rfl (Nat.le_of_ble_eq_true rfl) dL_whole_88 (J_pI (fun v35 g37 h => ?_))
        refine J_iconst C dL_whole_91 ?_
        refine J_icmp_ne C g37 (rgN 1 (by decide)) (tgt := 99) dL_whole_92 (by decide) (fun q79 => ?_) (fun q79 => ?_)
        · replace h := h.2 q79
          refine J_aload_n C dL_whole_99 rfl 1 rfl ?_
          refine J_iload_n C dL_whole_100 rfl 2 rfl ?_
          refine J_iconst C dL_whole_101 ?_
          refine J_iconst C dL_whole_102 ?_
          refine J_V C (ct_X9_part hs g2 (rgN 1 (by decide)) (rgN 1 (by decide)) h) ck_X9_part wm_L_59 win_X9_part wsel_X9_part (dmC hs kc0 (by decide)) (clE_k E sj kc0) rfl ⟨rfl, rfl⟩ (by decide) (by decide) (As := [.int (jI x2), .int (jI 1), .int (jI 1)]) (rest := []) rfl rfl (Nat.le_of_ble_eq_true rfl) dL_whole_103 (J_pI (fun v39 g41 h => ?_))
          refine J_iconst C dL_whole_106 ?_
          refine J_iadd C dL_whole_107 ?_
          obtain ⟨g78, h⟩ := h
          exact J_sub [1, 0, 2] rfl (j108 _ _ _ h gt0_84 g2 g78)
        · replace h := h.1 q79
          refine J_iconst C dL_whole_95 ?_
          refine J_goto C (tgt := 108) dL_whole_96 (by decide) ?_
          exact J_sub [1, 0, 2] rfl (j108 _ _ _ h gt0_84 g2 (rgN 0 (by decide)))
      have j83 : ∀ (x2 : Int), wj_L_whole_83 (fun (x1_22 : Int) (x2_22 : Int) => rgI x1_22 → rgI x2_22 → JJ F E 1 7 sj 22 [(0, .ref (adE E 0)), (1, .int (jI x1_22)), (2, .int (jI x2_22))] [])  x2 sj Q → rgI x2 → JJ F E 1 7 sj 83 [(0, .ref (adE E 0)), (2, .int (jI x2))] [] := by
        intro x2 h g2
        refine J_iconst C dL_whole_83 ?_
        exact J_sub [0, 1] rfl (j84 _ _ h g2 (rgN 0 (by decide)))
      have j79 : ∀ (x2 : Int), wj_L_whole_79 (fun (x1_22 : Int) (x2_22 : Int) => rgI x1_22 → rgI x2_22 → JJ F E 1 7 sj 22 [(0, .ref (adE E 0)), (1, .int (jI x1_22)), (2, .int (jI x2_22))] [])  x2 sj Q → rgI x2 → JJ F E 1 7 sj 79 [(0, .ref (adE E 0)), (2, .int (jI x2))] [] := by
        intro x2 h g2
        refine J_iconst C dL_whole_79 ?_
        refine J_goto C (tgt := 84) dL_whole_80 (by decide) ?_
        exact J_sub [0, 1] rfl (j84 _ _ h g2 (rgN 1 (by decide)))
      refine J_iload_n C dL_whole_22 rfl 2 rfl ?_
      refine J_aload_n C dL_whole_23 rfl 0 rfl ?_
      refine J_bipush C dL_whole_24 (by decide) ?_
      refine J_V C (ct_X9_told hs (rgN 8 (by decide)) h) ck_X9_told wm_L_47 win_X9_told wsel_X9_told (dmC hs kc0 (by decide)) (clE_k E sj kc0) rfl ⟨rfl, rfl⟩ (by decide) (by decide) (As := [.int (jI 8)]) (rest := [.int (jI x2_22)]) rfl rfl (Nat.le_of_ble_eq_true rfl) dL_whole_26 (J_pI (fun v25 g27 h => ?_))
      refine J_icmp_ge C g2_22 g27 (tgt := 189) dL_whole_29 (by decide) (fun q97 => ?_) (fun q97 => ?_)
      · replace h := h.1 q97
        refine J_iload_n C dL_whole_189 rfl 1 rfl ?_
        obtain ⟨g29, h⟩ := h
        exact J_zret C (by rw [hmc]; decide) (by rw [hms]; decide) (nar_z g29) dL_whole_190 (by rw [hF]; exact ⟨_, rfl, g29, h, nj⟩)
      · replace h := h.2 q97
        refine J_iload_n C dL_whole_32 rfl 1 rfl ?_
        refine J_if_eq C g1_22 (tgt := 189) dL_whole_33 (by decide) (fun q96 => ?_) (fun q96 => ?_)
        · replace h := h.1 q96
          refine J_iload_n C dL_whole_189 rfl 1 rfl ?_
          obtain ⟨g30, h⟩ := h
          exact J_zret C (by rw [hmc]; decide) (by rw [hms]; decide) (nar_z g30) dL_whole_190 (by rw [hF]; exact ⟨_, rfl, g30, h, nj⟩)
        · replace h := h.2 q96
          refine J_aload_n C dL_whole_36 rfl 0 rfl ?_
          refine J_iload_n C dL_whole_37 rfl 2 rfl ?_
          refine J_iconst C dL_whole_38 ?_
          refine J_S C (ct_L_lines hs g2_22 (rgN 0 (by decide)) h) ck_L_lines wm_L_84 wst_L_lines ⟨rfl, rfl⟩ (by decide) (by decide) (As := [.ref (adE E 0), .int (jI x2_22), .int (jI 0)]) (rest := []) rfl rfl (Nat.le_of_ble_eq_true rfl) dL_whole_39 (J_pZ (fun v31 g33 h => ?_))
          refine J_if_eq C (rg_z g33) (tgt := 83) dL_whole_42 (by decide) (fun q95 => ?_) (fun q95 => ?_)
          · replace h := h.1 q95
            exact J_sub [0, 2] rfl (j83 _ h g2_22)
          · replace h := h.2 q95
            refine J_aload_n C dL_whole_45 rfl 0 rfl ?_
            refine J_iload_n C dL_whole_46 rfl 2 rfl ?_
            refine J_iconst C dL_whole_47 ?_
            refine J_V C (ct_X9_subtitle hs g2_22 (rgN 2 (by decide)) h) ck_X9_subtitle wm_L_33 win_X9_subtitle wsel_X9_subtitle (dmC hs kc0 (by decide)) (clE_k E sj kc0) rfl ⟨rfl, rfl⟩ (by decide) (by decide) (As := [.int (jI x2_22), .int (jI 2)]) (rest := []) rfl rfl (Nat.le_of_ble_eq_true rfl) dL_whole_48 (J_pI (fun v80 g82 h => ?_))
            refine J_iconst C dL_whole_51 ?_
            refine J_icmp_ne C g82 (rgN 1 (by decide)) (tgt := 70) dL_whole_52 (by decide) (fun q94 => ?_) (fun q94 => ?_)
            · replace h := h.2 q94
              refine J_aload_n C dL_whole_70 rfl 0 rfl ?_
              refine J_iload_n C dL_whole_71 rfl 2 rfl ?_
              refine J_iconst C dL_whole_72 ?_
              refine J_S C (ct_L_lines hs g2_22 (rgN 1 (by decide)) h) ck_L_lines wm_L_84 wst_L_lines ⟨rfl, rfl⟩ (by decide) (by decide) (As := [.ref (adE E 0), .int (jI x2_22), .int (jI 1)]) (rest := []) rfl rfl (Nat.le_of_ble_eq_true rfl) dL_whole_73 (J_pZ (fun v84 g86 h => ?_))
              refine J_if_eq C (rg_z g86) (tgt := 83) dL_whole_76 (by decide) (fun q88 => ?_) (fun q88 => ?_)
              · replace h := h.1 q88
                exact J_sub [0, 2] rfl (j83 _ h g2_22)
              · replace h := h.2 q88
                exact J_sub [0, 2] rfl (j79 _ h g2_22)
            · replace h := h.1 q94
              refine J_aload_n C dL_whole_55 rfl 0 rfl ?_
              refine J_iload_n C dL_whole_56 rfl 2 rfl ?_
              refine J_iconst C dL_whole_57 ?_
              refine J_iconst C dL_whole_58 ?_
              refine J_V C (ct_X9_part hs g2_22 (rgN 1 (by decide)) (rgN 1 (by decide)) h) ck_X9_part wm_L_59 win_X9_part wsel_X9_part (dmC hs kc0 (by decide)) (clE_k E sj kc0) rfl ⟨rfl, rfl⟩ (by decide) (by decide) (As := [.int (jI x2_22), .int (jI 1), .int (jI 1)]) (rest := []) rfl rfl (Nat.le_of_ble_eq_true rfl) dL_whole_59 (J_pI (fun v89 g91 h => ?_))
              refine J_bipush C dL_whole_62 (by decide) ?_
              refine J_icmp_ne C g91 (rgN (-9) (by decide)) (tgt := 83) dL_whole_64 (by decide) (fun q93 => ?_) (fun q93 => ?_)
              · replace h := h.2 q93
                exact J_sub [0, 2] rfl (j83 _ h g2_22)
              · replace h := h.1 q93
                refine J_goto C (tgt := 79) dL_whole_67 (by decide) ?_
                exact J_sub [0, 2] rfl (j79 _ h g2_22)
    )
    exact J_sub [2, 1, 0] rfl (h gt0_19 (rgN 0 (by decide)))
  have j18 : ∀ (sj : Sg), wj_L_whole_18    sj Q → gN sj = gN s → JJ F E 1 7 sj 18 [(0, .ref (adE E 0))] [] := by
    intro sj h nj
    refine J_iconst C dL_whole_18 ?_
    exact J_sub [0] rfl (j19 _ _ h (rgN 0 (by decide)) nj)
  refine J_aload_n C dL_whole_0 rfl 0 rfl ?_
  refine J_S C (ct_L_order hs h) ck_L_order wm_L_78 wst_L_order ⟨rfl, rfl⟩ (by decide) (by decide) (As := [.ref (adE E 0)]) (rest := []) rfl rfl (Nat.le_of_ble_eq_true rfl) dL_whole_1 (J_pZ (fun v21 g23 h => ?_))
  refine J_if_eq C (rg_z g23) (tgt := 18) dL_whole_4 (by decide) (fun q104 => ?_) (fun q104 => ?_)
  · replace h := h.1 q104
    refine JQ.widen (c1 := 1) (s1 := 7) (by decide) (by decide) ?_
    exact J_sub [0] rfl (j18  _ h rfl)
  · replace h := h.2 q104
    refine J_aload_n C dL_whole_7 rfl 0 rfl ?_
    refine J_SG C (fun a ha => hAF a (adA_le (Nat.le_of_eq (rfl).symm) ha)) (ct_L_faults hE hs h) ck_L_faults wm_L_82 wst_L_faults ⟨rfl, rfl⟩ (by decide) (by decide) (As := [.ref (adE E 0)]) (rest := []) rfl rfl (Nat.le_of_ble_eq_true rfl) dL_whole_8 (J_kZ (fun v98 s99 g100 h n101 => ?_))
    have n102 : gN s99 = gN s := n101
    refine J_if_eq C (rg_z g100) (tgt := 18) dL_whole_11 (by decide) (fun q103 => ?_) (fun q103 => ?_)
    · replace h := h.1 q103
      exact J_sub [0] rfl (j18  _ h n102)
    · replace h := h.2 q103
      refine J_iconst C dL_whole_14 ?_
      refine J_goto C (tgt := 19) dL_whole_15 (by decide) ?_
      exact J_sub [0] rfl (j19 _ _ h (rgN 1 (by decide)) n102)
