/-! the class's add over the machine -/
theorem wm_X9_127 : Cond.methodLink RX9 127 yX7_insert ∈ lw_gt := gt_in (List.mem_append_right _ (List.mem_of_getElem? (i := 562) (by decide +kernel))) rfl
theorem win_X7_insert : Cond.instanceMethod yX7_insert ∈ lw_gt := gt_in (List.mem_append_right _ (List.mem_of_getElem? (i := 563) (by decide +kernel))) rfl
theorem wsel_X7_insert : Cond.selects yX7_insert.cls yX7_insert yX7_insert ∈ lw_gt := gt_in (List.mem_append_right _ (List.mem_of_getElem? (i := 564) (by decide +kernel))) rfl
theorem ck_X7_insert : CkE yX7_insert cX7_insert 5 (some .int) 3 := ⟨gt_in (List.mem_append_right _ (List.mem_of_getElem? (i := 565) (by decide +kernel))) rfl, gt_in (List.mem_append_right _ (List.mem_of_getElem? (i := 9) (by decide +kernel))) rfl, by decide +kernel⟩
/-- the class's cells, address by address -/
def mpE (E : ET) (σ : Sg) : Nat → Option va_E := fun a => if eb E ≤ a + 1 ∧ a < eb E + 2 then some (clE E σ (a + 1 - eb E)) else if eb E + 3 ≤ a ∧ a < eb E + 279 then some (clE E σ (a - eb E)) else if eb2 E ≤ a ∧ a < eb2 E + (gN σ - 293) then some (clE E σ (293 + (a - eb2 E))) else none
theorem mpE_rep {E : ET} {σ : Sg} {H : Heap} (hs : eS E = true) (h : RepE E σ H) : HW E H.size (mpE E σ) H := by
  refine ⟨rfl, fun a e ha => ?_⟩
  unfold mpE at ha
  by_cases h0 : eb E ≤ a + 1 ∧ a < eb E + 2
  · rw [if_pos h0] at ha
    have hq := h.1 (a + 1 - eb E) (by unfold dmE; rw [if_pos hs]; exact Or.inl (by omega))
    have e9 : adE E (a + 1 - eb E) = a := by
      unfold adE
      rw [if_pos (by omega)]
      omega
    rw [e9] at hq
    cases ha
    exact hq
  rw [if_neg h0] at ha
  by_cases h1 : eb E + 3 ≤ a ∧ a < eb E + 279
  · rw [if_pos h1] at ha
    have hq := h.1 (a - eb E) (by unfold dmE; rw [if_pos hs]; exact Or.inl (by omega))
    rw [adE_lo E (by omega), show eb E + (a - eb E) = a by omega] at hq
    cases ha
    exact hq
  · rw [if_neg h1] at ha
    by_cases h2 : eb2 E ≤ a ∧ a < eb2 E + (gN σ - 293)
    · rw [if_pos h2] at ha
      have hq := h.1 (293 + (a - eb2 E)) (by unfold dmE; rw [if_pos hs]; exact Or.inr (Or.inl (by omega)))
      unfold adE at hq
      rw [if_neg (by omega), if_neg (by omega), show eb2 E + (293 + (a - eb2 E) - 293) = a by omega] at hq
      cases ha
      exact hq
    · rw [if_neg h2] at ha
      cases ha
theorem mpE_lo {E : ET} {σ : Sg} {q : Nat} (hb : 1 ≤ eb E) (h : q < 279) : mpE E σ (adE E q) = some (clE E σ q) := by
  by_cases h3 : q < 3
  · have e : adE E q = eb E + q - 1 := by
      unfold adE
      rw [if_pos h3]
    rw [e]
    unfold mpE
    rw [if_pos (by omega), show eb E + q - 1 + 1 - eb E = q by omega]
  · rw [adE_lo E (by omega)]
    unfold mpE
    rw [if_neg (by omega), if_pos (by omega), show eb E + q - eb E = q by omega]
abbrev rm_X9_add0 : Room := { frames := 4, cells := 0, slots := 0, locals := 90 }
abbrev rm_X9_add : Room := { frames := 4, cells := 2, slots := 42, locals := 90 }
/-- add up to the place where it makes a part -/
theorem add_walk {F : FT} {E : ET} {rm : Room} (C : Cx F E cX9_add RX9 (some .int) rm 5) (hs : eS E = true) (hrm : 1 ≤ rm.frames ∧ 60 ≤ rm.locals) {s : Sg} {x1 x2 x3 : Int} (g1 : rgI x1) (g2 : rgI x2) (g3 : rgI x3) {J : Prop} {R : Int → Prop} (h : wpA J R x1 x2 x3 s) (hR : ∀ r, rgI r → R r → fq F (some (.int (jI r))) s) (hJ : J → JJ F E 0 0 s 64 [(0, .ref (adE E 0)), (1, .int (jI x1)), (2, .int (jI x2)), (3, .int (jI x3))] []) : JJ F E 0 0 s 0 [(0, .ref (adE E 0)), (1, .int (jI x1)), (2, .int (jI x2)), (3, .int (jI x3))] [] := by
  have hR1 := hrm.1
  have hR2 := hrm.2
  refine J_iload_n C dX9_add_0 rfl 1 rfl ?_
  refine J_iload_n C dX9_add_1 rfl 2 rfl ?_
  refine J_S C (ct_X9_isTime hs g1 g2 h) ck_X9_isTime wm_X9_110 wst_X9_isTime ⟨rfl, rfl⟩ ⟨by show 0 + 1 ≤ rm.frames; omega, by show 8 + (2 + 11) + 0 ≤ rm.locals; omega⟩ ⟨Nat.zero_le _, Nat.zero_le _⟩ (As := [.int (jI x1), .int (jI x2)]) (rest := []) rfl rfl (Nat.le_of_ble_eq_true rfl) dX9_add_2 (J_pZ (fun v21 g21 h => ?_))
  refine J_if_eq C (rg_z g21) (tgt := 17) dX9_add_5 (by decide) (fun q40 => ?_) (fun q40 => ?_)
  · replace h := h.1 q40
    refine J_iconst C dX9_add_17 ?_
    exact J_iret C (Nat.zero_le _) (Nat.zero_le _) dX9_add_18 (hR _ (rgN (-1) (by decide)) h)
  replace h := h.2 q40
  refine J_iload_n C dX9_add_8 rfl 3 rfl ?_
  refine J_iconst C dX9_add_9 ?_
  refine J_iconst C dX9_add_10 ?_
  refine J_S C (ct_X9_isWithin hs g3 (rgN 0 (by decide)) (rgN 3 (by decide)) h) ck_X9_isWithin wm_X9_41 wst_X9_isWithin ⟨rfl, rfl⟩ ⟨by show 0 + 1 ≤ rm.frames; omega, by show 8 + (3 + 11) + 0 ≤ rm.locals; omega⟩ ⟨Nat.zero_le _, Nat.zero_le _⟩ (As := [.int (jI x3), .int (jI 0), .int (jI 3)]) (rest := []) rfl rfl (Nat.le_of_ble_eq_true rfl) dX9_add_11 (J_pZ (fun v25 g25 h => ?_))
  refine J_if_ne C (rg_z g25) (tgt := 19) dX9_add_14 (by decide) (fun q41 => ?_) (fun q41 => ?_)
  · replace h := h.2 q41
    refine J_aload_n C dX9_add_19 rfl 0 rfl ?_
    refine gf_X9_now C hs wf_X9_23 dX9_add_20 ?_
    refine gf_X5_track C hs kc4 wf_X9_114 dX9_add_23 ?_
    refine J_V C (ct_X7_isFull hs (kd5_track kc4) h) ck_X7_isFull wm_X9_118 win_X7_isFull wsel_X7_isFull (dmC hs (kd5_track kc4) (by decide)) (clE_k E s (kd5_track kc4)) rfl ⟨rfl, rfl⟩ ⟨by show 0 + 1 ≤ rm.frames; omega, by show 8 + (1 + 11) + 0 ≤ rm.locals; omega⟩ ⟨Nat.zero_le _, Nat.zero_le _⟩ (As := []) (rest := []) rfl rfl (Nat.le_of_ble_eq_true rfl) dX9_add_26 (J_pZ (fun v30 g30 h => ?_))
    refine J_if_eq C (rg_z g30) (tgt := 35) dX9_add_29 (by decide) (fun q42 => ?_) (fun q42 => ?_)
    · replace h := h.1 q42
      refine J_aload_n C dX9_add_35 rfl 0 rfl ?_
      refine gf_X9_typedBytes C hs wf_X9_106 dX9_add_36 (fun g36 => ?_)
      refine J_if_ne C g36 (tgt := 45) dX9_add_39 (by decide) (fun q43 => ?_) (fun q43 => ?_)
      · replace h := h.2 q43
        refine J_aload_n C dX9_add_45 rfl 0 rfl ?_
        refine J_V C (ct_X9_firstWrongBlank hs h) ck_X9_firstWrongBlank wm_X9_124 win_X9_firstWrongBlank wsel_X9_firstWrongBlank (dmC hs kc0 (by decide)) (clE_k E s kc0) rfl ⟨rfl, rfl⟩ ⟨by show 0 + 1 ≤ rm.frames; omega, by show 8 + (4 + 11) + 0 ≤ rm.locals; omega⟩ ⟨Nat.zero_le _, Nat.zero_le _⟩ (As := []) (rest := []) rfl rfl (Nat.le_of_ble_eq_true rfl) dX9_add_46 (J_pI (fun v35 g35 h => ?_))
        refine J_istore C dX9_add_49 (by decide) (lv' := [(4, .int (jI v35)), (0, .ref (adE E 0)), (1, .int (jI x1)), (2, .int (jI x2)), (3, .int (jI x3))]) rfl ?_
        refine J_iload C dX9_add_51 0 rfl ?_
        refine J_bipush C dX9_add_53 (by decide) ?_
        refine J_icmp_eq C g35 (rgN (-9) (by decide)) (tgt := 64) dX9_add_55 (by decide) (fun q44 => ?_) (fun q44 => ?_)
        · exact J_sub [1, 2, 3, 4] rfl (hJ (h.1 q44))
        · replace h := h.2 q44
          refine J_bipush C dX9_add_58 (by decide) ?_
          refine J_iload C dX9_add_60 0 rfl ?_
          refine J_isub C dX9_add_62 ?_
          exact J_iret C (Nat.zero_le _) (Nat.zero_le _) dX9_add_63 (hR _ h.1 h.2)
      · replace h := h.1 q43
        refine J_bipush C dX9_add_42 (by decide) ?_
        exact J_iret C (Nat.zero_le _) (Nat.zero_le _) dX9_add_44 (hR _ (rgN (-10) (by decide)) h)
    · replace h := h.2 q42
      refine J_bipush C dX9_add_32 (by decide) ?_
      exact J_iret C (Nat.zero_le _) (Nat.zero_le _) dX9_add_34 (hR _ (rgN (-3) (by decide)) h)
  · replace h := h.1 q41
    refine J_iconst C dX9_add_17 ?_
    exact J_iret C (Nat.zero_le _) (Nat.zero_le _) dX9_add_18 (hR _ (rgN (-1) (by decide)) h)
/-- add where it makes no part -/
theorem ct_X9_add0 {l : Launch} {E : ET} (hs : eS E = true) {s : Sg} {x1 : Int} (g1 : rgI x1) {x2 : Int} (g2 : rgI x2) {x3 : Int} (g3 : rgI x3) {Q : Int → Prop} (h : wpA False Q x1 x2 x3 s) : MetE l E yX9_add cX9_add 5 (some .int) rm_X9_add0 s [.ref (adE E 0), .int (jI x1), .int (jI x2), .int (jI x3)] (qI (fun r t => Q r ∧ t = s) (gN s)) := by
  refine MetJ (by decide +kernel) (Nat.le_of_ble_eq_true rfl) ?_
  intro F hl C hF
  subst hl
  exact add_walk C hs (by decide) g1 g2 g3 h (fun r hr hq => by rw [hF]; exact ⟨r, rfl, hr, ⟨hq, rfl⟩, rfl⟩) (fun z => z.elim)
theorem fits_b {x : Int} (h1 : -128 ≤ x) (h2 : x ≤ 127) : fits .byte (.int (jI x)) = true := by
  have e : -128 ≤ jI x ∧ jI x ≤ 127 := by
    show jI (-128) ≤ jI x ∧ jI x ≤ jI 127
    exact ⟨(jI_le ⟨by decide, by decide⟩ ⟨by omega, by omega⟩).mpr h1, (jI_le ⟨by omega, by omega⟩ ⟨by decide, by decide⟩).mpr h2⟩
  simp [fits, e]
/-- from the heap address by address back to the numbers -/
theorem J_ofK {F : FT} {E : ET} {c0 s0 z : Nat} {σ : Sg} {M : Nat → Option va_E} {pc : Nat} {lv : List (Nat × Value)} {st : List Value} (hw : WtE σ) (hzz : eZ E = true → z = eb2 E + (gN σ - 293)) (hm : ∀ q, dmE E σ q → M (adE E q) = some (clE E σ q)) (h : JJ F E c0 s0 σ pc lv st) : JW F E (MQ (fb F) (Qcc E (fA F) (fq F) (fmc F)) (fa F) (fs F) (fmc F) (fms F) (fA F)) c0 s0 z M pc lv st := fun H locs ls h1 h2 h3 =>
  h H locs ls ⟨fun q hq => h1.2 _ _ (hm q hq), hw, fun w => by rw [h1.1]; exact hzz w⟩ h2 h3
set_option maxHeartbeats 4000000 in
/-- add where it makes a part -/
theorem ct_X9_add {l : Launch} {E : ET} (hz : eZ E = true) (hs : eS E = true) {s : Sg} {x1 : Int} (g1 : rgI x1) {x2 : Int} (g2 : rgI x2) {x3 : Int} (g3 : rgI x3) {Q : Int → Sg → Prop} (h : wpA (wj_X9_add_64 x1 x2 x3 s Q) (fun _ => False) x1 x2 x3 s) : MetG l E yX9_add cX9_add 5 (some .int) rm_X9_add s [.ref (adE E 0), .int (jI x1), .int (jI x2), .int (jI x3)] (qI Q (gN s + 2)) 2 42 := by
  refine Met.ofW (cc := cX9_add) (maxL := 5) (ret := some .int) (by decide +kernel) rfl ?_
  intro p e s0 m args below meth c s₁ B hml hv
  obtain ⟨rfl, hk, hrep⟩ := hv
  have hsz := hrep.2.2 hz
  have hts := atoms_spec (ws := Cond.code yX9_add cX9_add 5 (some .int) :: lw_gt) B.pre
  have hlo := hk.2.2.2
  have C : Cx (p, l, e, (headSpec (Cond.code yX9_add cX9_add 5 (some .int) :: lw_gt) rm_X9_add).room, s0, m, [Value.ref (adE E 0), .int (jI x1), .int (jI x2), .int (jI x3)].toArray, below, meth, c, 2, 42, adA E s, 5, qI Q (gN s + 2)) E cX9_add yX9_add.cls (some .int) rm_X9_add 5 :=
    ⟨B.exec, B.bytes, hml, findClass_of_methodNamed B.named, fun w hw => hts w (List.mem_cons_of_mem _ hw), B.returns, B.notSynchronized, hk, fun _ z => Or.inl z, fun a ha => by
      rcases ha with ha | ha
      · exact lo_A a ha
      · omega, rfl, rfl⟩
  generalize hF : (p, l, e, (headSpec (Cond.code yX9_add cX9_add 5 (some .int) :: lw_gt) rm_X9_add).room, s0, m, [Value.ref (adE E 0), .int (jI x1), .int (jI x2), .int (jI x3)].toArray, below, meth, c, 2, 42, adA E s, 5, qI Q (gN s + 2)) = F at C
  have hq : fq F = qI Q (gN s + 2) := by rw [← hF]
  have hmc : fmc F = 2 := by rw [← hF]
  have hms : fms F = 42 := by rw [← hF]
  have hA : fA F = adA E s := by rw [← hF]
  have hfs : (fs F).heap.size = eb2 E + (gN s - 293) := by rw [← hF]; exact hsz
  have key : JJ F E 0 0 s 0 [(0, .ref (adE E 0)), (1, .int (jI x1)), (2, .int (jI x2)), (3, .int (jI x3))] [] := by
    refine add_walk C hs (by decide) g1 g2 g3 h (fun r _ z => z.elim) (fun h => ?_)
    refine J_aload_n C dX9_add_64 rfl 0 rfl ?_
    refine gf_X9_history C hs wf_X9_37 dX9_add_65 ?_
    refine J_aload_n C dX9_add_68 rfl 0 rfl ?_
    refine gf_X9_now C hs wf_X9_23 dX9_add_69 ?_
    refine J_V C (ct_X1_record hs kc4 h) ck_X1_record wm_X9_58 win_X1_record wsel_X1_record (dmC hs kc61 (by decide)) (clE_k E s kc61) rfl ⟨rfl, rfl⟩ (by decide) (by decide) (As := [.ref (adE E 4)]) (rest := []) rfl rfl (Nat.le_of_ble_eq_true rfl) dX9_add_72 (J_kV (fun t h nt => ?_))
    refine J_aload_n C dX9_add_75 rfl 0 rfl ?_
    refine gf_X9_now C hs wf_X9_23 dX9_add_76 ?_
    refine gf_X5_track C hs kc4 wf_X9_114 dX9_add_79 ?_
    refine J_iload_n C dX9_add_82 rfl 1 rfl ?_
    refine J_iload_n C dX9_add_83 rfl 2 rfl ?_
    obtain ⟨hby, h⟩ := h
    intro H locs ls h1 h2 h3 T hT X
    have hwt := h1.2.1
    have h281 : ¬ eb2 E + (gN t - 293) ≤ em E := fun g => by
      have h9 : adE E 281 < H.size := (h1.1 281 (by unfold dmE; rw [if_pos hs]; exact Or.inr (Or.inr ⟨rfl, g⟩))).lt
      rw [adE_Y, h1.2.2 hz] at h9
      omega
    have hn293 := hwt.2.2.2.1
    have hn2 := hwt.2.2.2.2.1
    have hsz2 : H.size = eb2 E + (gN t - 293) := by
      have a1 := X.heapSize
      have a2 := h2.1
      rw [hT, hfs] at a1
      rw [hfs] at a2
      rw [nt]
      omega
    replace h := h hwt
    have hnew : adE E (gN t) = eb2 E + (gN t - 293) := by unfold adE; rw [if_neg (by omega), if_neg (by omega)]
    have hnew1 : adE E (gN t + 1) = eb2 E + (gN t - 293) + 1 := by unfold adE; rw [if_neg (by omega), if_neg (by omega)]; omega
    have hAz : ∀ a, eb2 E + (gN t - 293) ≤ a → fA F a := fun a ha => by
      rw [hA]
      exact Or.inr (by rw [← nt]; exact ha)
    have hAr : ∀ a, rgA E a → fA F a := fun a ha => by rw [hA]; exact Or.inl ha
    have kW : JW F E (MQ (fb F) (Qcc E (fA F) (fq F) (fmc F)) (fa F) (fs F) (fmc F) (fms F) (fA F)) 0 0 (eb2 E + (gN t - 293)) (mpE E t) 84 [(0, .ref (adE E 0)), (1, .int (jI x1)), (2, .int (jI x2)), (3, .int (jI x3))] [.int (jI x2), .int (jI x1), .ref (adE E (4 + 8))] := by
      have hlt : ∀ q, q < 279 → adE E q ≠ eb2 E + (gN t - 293) := fun q hq => by unfold adE; (repeat' split) <;> omega
      have hM0 : ∀ q, q < 279 → updM (mpE E t) (eb2 E + (gN t - 293)) (.inr (2, [.int 0, .null])) (adE E q) = some (clE E t q) := fun q hq => (updM_ne (hlt q hq)).trans (mpE_lo hlo.2 hq)
      refine K_new C wl_X2 tyX2 tyX2_ok wn_X9_13 wi_X2 wz_X2 (ci := 2) rfl (fs := [.int 0, .null]) (by decide) (by decide) dX9_add_84 ?_
      refine K_dup C dX9_add_87 rfl ?_
      refine K_iload_n C dX9_add_88 rfl 3 rfl ?_
      refine K_aload_n C dX9_add_89 rfl 0 rfl ?_
      refine K_get C ((hM0 0 (by omega)).trans (congrArg some (clE_k E t kc0))) rfl wl_X9 0 (by decide) wf_X9_9 rfl dX9_add_90 ?_
      refine K_aload_n C dX9_add_93 rfl 0 rfl ?_
      refine K_get C ((hM0 0 (by omega)).trans (congrArg some (clE_k E t kc0))) rfl wl_X9 1 (by decide) wf_X9_106 rfl dX9_add_94 ?_
      refine K_call C (fun a ha => ?_) (ct_X2i (b := eb2 E + (gN t - 293)) (z := eb2 E + (gN t - 293) + 1) (a0 := adE E 1) (x := x3) (n := gI t 0 1) (g := fun j => jI (gI t 1 (j : Int))) (m := 40) (mn := 40) (g' := fun j => jI (gI (nwP t x3) (gN t + 1) (j : Int))) rfl (by decide) g3 (hwt.1 _ _) (by omega) (by omega) (by rw [adE_1]; omega) (updM_self _ _ _) ((hM0 1 (by omega)).trans (congrArg some (clE_k E t kc1))) (fun i hi => ?_) (fun j hj => ?_)) ck_X2i wm_X9_15i wim_X2 rfl ⟨rfl, rfl⟩ (by decide) (by decide) (As := [.int (jI x3), .ref (adE E 1), .int (jI (gI t 0 1))]) (rest := [.ref (eb2 E + (gN t - 293)), .int (jI x2), .int (jI x1), .ref (adE E (4 + 8))]) rfl rfl (Nat.le_of_ble_eq_true rfl) dX9_add_97 ?_
      · rcases ha with ha | ha | ha
        · exact hAr a ha
        · exact hAz a (by omega)
        · exact hAz a (by omega)
      · obtain ⟨b1, b2⟩ := hby (i : Int) (by omega) hi
        exact fits_b b1 b2
      · show jI (gI (nwP t x3) (gN t + 1) (j : Int)) = jI (gI t 1 (j : Int))
        rw [gI_nwP, if_neg (by omega), if_pos ⟨rfl, by omega, hj⟩]
      · have hw' : WtE (nwP t x3) := hwt.nw g3
        have hok : okP (nwP t x3) (gN t) := ⟨by rw [kdO_hi hn293, if_pos hn2], by rw [gN_nwP]; omega⟩
        have hk1 : kdO (gN t + 1) = 4 := by rw [kdO_hi (by omega), if_neg (by omega)]
        refine J_ofK hw' (fun _ => by rw [gN_nwP]; omega) (fun q hq => ?_) ?_
        · unfold ptM
          by_cases e1 : q = gN t
          · subst e1
            rw [hnew, updM_self, clE_k E _ hok.1]
            show _ = some (Sum.inr (2, [Value.int (jI (gI (nwP t x3) (gN t) 0)), Value.ref (adE E (gN t + 1))]) : va_E)
            rw [hnew1, gI_nwP, if_pos ⟨rfl, rfl⟩]
          · by_cases e2 : q = gN t + 1
            · subst e2
              rw [hnew1, updM_ne (by omega), updM_self, clE_k E _ hk1]
              show _ = some (Sum.inl (ecB E, (gL (nwP t x3) (gN t + 1)).toNat, Sum.inl (fun j : Nat => jI (gI (nwP t x3) (gN t + 1) (j : Int)))) : va_E)
              rw [gL_nwP, if_pos rfl]
              rfl
            · unfold dmE at hq
              rw [if_pos hs, gN_nwP] at hq
              have hlt2 : q < gN t := by omega
              have ec : clE E (nwP t x3) q = clE E t q := clK_congr (fun j => gI_nwP_lo hlt2 j) (fun _ => rfl) (gL_nwP_lo hlt2)
              rw [ec]
              have hav : adE E q < eb2 E + (gN t - 293) := by
                unfold adE
                (repeat' split) <;> omega
              rw [updM_ne (by omega), updM_ne (by omega), updM_ne (by omega)]
              rcases hq with hq | hq | hq
              · exact mpE_lo hlo.2 hq
              · have ea : adE E q = eb2 E + (q - 293) := by unfold adE; rw [if_neg (by omega), if_neg (by omega)]
                rw [ea]
                unfold mpE
                rw [if_neg (by omega), if_neg (by omega), if_pos (by omega)]
                congr 2
                omega
              · exact absurd (show eb2 E + (gN t - 293) ≤ em E by omega) h281
        · rw [← hnew]
          refine J_V C (ct_X7_insert hs (kd5_track kc4) g1 g2 hok h) ck_X7_insert wm_X9_127 win_X7_insert wsel_X7_insert (dmC hs (kd5_track kc4) (by decide)) (clE_k E _ (kd5_track kc4)) rfl ⟨rfl, rfl⟩ (by decide) (by decide) (As := [.int (jI x1), .int (jI x2), .ref (adE E (gN t))]) (rest := []) rfl rfl (Nat.le_of_ble_eq_true rfl) dX9_add_100 (J_kI (fun r t2 hr h n2 => ?_))
          exact J_iret C (by rw [hmc]; decide) (by rw [hms]; decide) dX9_add_103 (by rw [hq]; exact ⟨r, rfl, hr, h, by rw [n2, gN_nwP, nt]⟩)
    have hHW : HW E (eb2 E + (gN t - 293)) (mpE E t) H := by rw [← hsz2]; exact mpE_rep hs h1
    exact kW H locs ls hHW h2 h3 T hT X
  rw [lg_entry_eq]
  rw [← hF] at key
  exact key s0.heap [] _ hrep va_S.rf (lv_entry _ (Nat.le_of_ble_eq_true rfl))
