/-! constructors: Part, Trial, History, the class -/
theorem wm_X2_9 : Cond.methodLink RX2 9 Lib.Math.min.name ∈ lw_gt := gt_in (List.mem_append_right _ (List.mem_of_getElem? (i := 32) (by decide +kernel))) rfl
theorem wm_X2_15 : Cond.methodLink RX2 15 Lib.Math.max.name ∈ lw_gt := gt_in (List.mem_append_right _ (List.mem_of_getElem? (i := 35) (by decide +kernel))) rfl
theorem wm_X2_28 : Cond.methodLink RX2 28 arraycopyName ∈ lw_gt := gt_in (List.mem_append_right _ (List.mem_of_getElem? (i := 38) (by decide +kernel))) rfl
theorem wf_X2_18i : Cond.fieldLink RX2 18 "CutConformer$Part" "speaker" "I" ∈ lw_gt := gt_in (List.mem_append_right _ (List.mem_of_getElem? (i := 41) (by decide +kernel))) rfl
/-- how many bytes are kept -/
def kpN (m n : Int) : Int := max 0 (min n m)
def ptM (E : ET) (M : Nat → Option va_E) (b z : Nat) (x m n : Int) (g' : Nat → Int32) : Nat → Option va_E := updM (updM M z (.inl (ecB E, (kpN m n).toNat, .inl g'))) b (.inr (2, [.int (jI x), .ref z]))
abbrev rm_X2i : Room := { frames := 1, cells := 1, slots := 40, locals := 26 }
set_option maxHeartbeats 4000000 in
theorem ct_X2i {l : Launch} {E : ET} {b z a0 : Nat} {M : Nat → Option va_E} {x m n : Int} {mn : Nat} {g g' : Nat → Int32} (hm : (mn : Int) = m) (hm4 : mn ≤ 40) (hx : rgI x) (hn : rgI n) (hb : eb E ≤ b) (hbz : b < z) (haz : a0 < z) (hM : M b = some (.inr (2, [.int 0, .null]))) (hT : M a0 = some (.inl (ecB E, mn, .inl g))) (hfit : ∀ i : Nat, (i : Int) < kpN m n → fits .byte (.int (g i)) = true) (hg : ∀ j : Nat, (j : Int) < kpN m n → g' j = g j) : MetW l E yX2_init cX2_init 5 rm_X2i [.ref b, .int (jI x), .ref a0, .int (jI n)] z M (z + 1) (ptM E M b z x m n g') 1 40 (fun a => rgA E a ∨ a = b ∨ a = z) := by
  have hk0 : 0 ≤ kpN m n := by unfold kpN; omega
  have hk1 : kpN m n ≤ 40 ∧ kpN m n ≤ mn := by unfold kpN; omega
  have hab : a0 ≠ b := fun e => by rw [e, hM] at hT; cases hT
  refine MetWJ (by decide +kernel) (Nat.le_of_ble_eq_true rfl) (fun a h => Or.inl h) (fun a h => ?_) rfl ?_
  · rcases h with h | h | h
    · exact lo_A a h
    · omega
    · omega
  intro F hl C hA hmc hms hin
  subst hl
  have hAb : fA F b := by rw [hA]; exact Or.inr (Or.inl rfl)
  have hAz : fA F z := by rw [hA]; exact Or.inr (Or.inr rfl)
  show JW F E _ 0 0 z M 0 [(0, .ref b), (1, .int (jI x)), (2, .ref a0), (3, .int (jI n))] []
  refine K_aload_n C dX2_init_0 rfl 0 rfl ?_
  refine K_objInit C wo_X2 wo_i wo_c (by decide) (Nat.le_of_ble_eq_true rfl) dX2_init_1 ?_
  refine K_iconst C dX2_init_4 ?_
  refine K_iload_n C dX2_init_5 rfl 3 rfl ?_
  refine K_aload_n C dX2_init_6 rfl 2 rfl ?_
  refine K_alen C 1 rfl hT dX2_init_7 ?_
  rw [hm]
  refine K_min C hn ⟨by omega, by omega⟩ wm_X2_9 wst_min win_Math wco_min (by decide) (Nat.le_of_ble_eq_true rfl) (by decide) dX2_init_8 ?_
  refine K_max C rgI_0 ⟨by obtain ⟨h1, h2⟩ := hn; omega, by omega⟩ wm_X2_15 wst_max win_Math wco_max (by decide) (Nat.le_of_ble_eq_true rfl) (by decide) dX2_init_11 ?_
  show JW F E _ 0 0 z M 14 _ [.int (jI (kpN m n))]
  refine K_istore C dX2_init_14 (by decide) rfl ?_
  refine K_aload_n C dX2_init_16 rfl 1 rfl ?_
  refine K_iload_n C dX2_init_17 rfl 2 rfl ?_
  refine K_putF C (k := 0) hM hAb rfl wl_X2 tyX2 tyX2_ok nmX2 (by decide) wf_X2_18i rfl hin rfl rfl rfl rfl (Nat.le_of_ble_eq_true rfl) dX2_init_18 ?_
  refine K_aload_n C dX2_init_21 rfl 1 rfl ?_
  refine K_iload C dX2_init_22 0 rfl ?_
  refine K_newB C (N := (kpN m n).toNat) (by omega) (by omega) wa_byte ⟨by decide, by show 0 + (kpN m n).toNat ≤ 40; omega⟩ dX2_init_24 ?_
  refine K_putF C (k := 1) (a := b) (ci := 2) (fs := [.int (jI x), .null]) ((updM_ne (by omega)).trans (updM_self _ _ _)) hAb rfl wl_X2 tyX2 tyX2_ok nmX2 (by decide) wf_X2_24 rfl hin rfl rfl rfl rfl (Nat.le_of_ble_eq_true rfl) dX2_init_26 ?_
  refine K_aload_n C dX2_init_29 rfl 3 rfl ?_
  refine K_iconst C dX2_init_30 ?_
  refine K_aload_n C dX2_init_31 rfl 1 rfl ?_
  refine K_get C (updM_self _ _ _) rfl wl_X2 1 (by decide) wf_X2_24 rfl dX2_init_32 ?_
  refine K_iconst C dX2_init_35 ?_
  refine K_iload C dX2_init_36 0 rfl ?_
  have ek : kpN m n = (((kpN m n).toNat : Nat) : Int) := by omega
  have hfit2 : ∀ i : Nat, i < (kpN m n).toNat → fits .byte (.int (g i)) = true := fun i hi => hfit i (by omega)
  have hg2 : ∀ j : Nat, j < (kpN m n).toNat → g' j = if j < (kpN m n).toNat then g j else 0 := fun j hj => by rw [if_pos hj]; exact hg j (by omega)
  have hkn : (kpN m n).toNat ≤ mn := by omega
  have hw : JW F E (MQ (fb F) (Qcw E (fA F) (z + 1) (ptM E M b z x m n g')) (fa F) (fs F) (fmc F) (fms F) (fA F)) (0 + 1) (0 + (kpN m n).toNat) (z + 1) (updM (updM (updM (updM M b (.inr (2, [.int (jI x), .null]))) z (.inl (ecB E, (kpN m n).toNat, .inl (fun _ => 0)))) b (.inr (2, [.int (jI x), .ref z]))) z (.inl (ecB E, (kpN m n).toNat, .inl g'))) 41 [(4, .int (jI (kpN m n))), (0, .ref b), (1, .int (jI x)), (2, .ref a0), (3, .int (jI n))] [] := by
    refine K_ret C (by rw [hmc]; decide) (by rw [hms]; omega) (fun a e ha => ?_) dX2_init_41
    unfold ptM at ha
    by_cases h1 : a = z
    · rw [h1, updM_self]
      rw [h1, updM_ne (by omega), updM_self] at ha
      exact ha
    · rw [updM_ne h1]
      by_cases h2 : a = b
      · rw [h2, updM_self]
        rw [h2, updM_self] at ha
        exact ha
      · rw [updM_ne h2, updM_ne h1, updM_ne h2]
        rw [updM_ne h2, updM_ne h1] at ha
        exact ha
  have hcopy := K_copy C (a0 := a0) (a1 := z) (n0 := mn) (n1 := (kpN m n).toNat) (n := (kpN m n).toNat) (t1 := 1) (c1 := ecB E) (ty := .byte) (f := g) (g := fun _ => 0) (g' := g') (z := z + 1) (M := updM (updM (updM M b (.inr (2, [.int (jI x), .null]))) z (.inl (ecB E, (kpN m n).toNat, .inl (fun _ => 0)))) b (.inr (2, [.int (jI x), .ref z]))) (fun H locs h _ => srcK_M (t0 := 1) C.kn.1 rfl h (by rw [updM_ne hab, updM_ne (by omega), updM_ne hab]; exact hT)) rfl rfl ((updM_ne (by omega)).trans (updM_self _ _ _)) hAz hkn (Nat.le_refl _) (by omega) hfit2 hg2 wm_X2_28 wna_copy wst_copy win_System (by decide) (Nat.le_of_ble_eq_true rfl) dX2_init_38 hw
  rw [← ek] at hcopy
  exact hcopy
abbrev rm_X8i : Room := { frames := 4, cells := 29, slots := 179, locals := 84 }
set_option maxHeartbeats 4000000 in
theorem ct_X8i {l : Launch} {E : ET} {q : Nat} {M : Nat → Option va_E} (hq : q = 31) (hM : M (eb E + q) = some (.inr (8, [.null, .int 0, .null, .null, .int 0]))) : MetW l E yX8_init cX8_init 2 rm_X8i [.ref (eb E + q), .ref (eb E + 1)] (eb E + q + 1) M (eb E + (q + 30)) (blM E M q 30) 29 179 (fun a => eb E ≤ a + 1) := by
  have kq : kdO q = 15 := by subst hq; exact kc31
  have kq1 : kdO (q + 1) = 7 := by subst hq; exact kc32
  have kq2 : kdO (q + 2) = 7 := by subst hq; exact kc33
  refine MetWJ (by decide +kernel) (Nat.le_of_ble_eq_true rfl) lo_A (fun a h => h) rfl ?_
  intro F hl C hA hmc hms hin
  subst hl
  have hAe : ∀ a, eb E ≤ a + 1 → fA F a := fun a h => by rw [hA]; exact h
  show JW F E _ 0 0 (eb E + q + 1) M 0 [(0, .ref (eb E + q)), (1, .ref (eb E + 1))] []
  refine JW.mono (M' := obM E sg0 M q 1 (.inr (8, [.null, .int 0, .null, .null, .int 0]))) ?_ (obM_start hM)
  refine K_aload_n C dX8_init_0 rfl 0 rfl ?_
  refine K_objInit C wo_X8 wo_i wo_c (by decide) (Nat.le_of_ble_eq_true rfl) dX8_init_1 ?_
  refine K_aload_n C dX8_init_4 rfl 0 rfl ?_
  refine K_bipush C dX8_init_5 (by decide) ?_
  refine JW.at (z' := eb E + (q + 1)) (by omega) ?_
  refine K_newI C (N := 10) rfl (by decide) wa_int (by decide) dX8_init_7 ?_
  refine K_putF C (k := 2) (a := eb E + q) (ci := 8) (fs := [.null, .int 0, .null, .null, .int 0]) (ob_get1 (n := 1) (by omega)) (hAe _ (by omega)) rfl wl_X8 tyX8 tyX8_ok nmX8 (by decide) wf_X8_9 rfl hin rfl rfl rfl rfl (Nat.le_of_ble_eq_true rfl) dX8_init_9 ?_
  refine JW.ob1 (n := 1) (n' := 2) (e1 := .inr (8, [.null, .int 0, .ref (eb E + (q + 1)), .null, .int 0])) ?_ (by omega) rfl (by omega) (sg0_i kq1 (by omega)).symm
  refine K_aload_n C dX8_init_12 rfl 0 rfl ?_
  refine K_bipush C dX8_init_13 (by decide) ?_
  refine K_newI C (N := 10) rfl (by decide) wa_int (by decide) dX8_init_15 ?_
  refine K_putF C (k := 3) (a := eb E + q) (ci := 8) (fs := [.null, .int 0, .ref (eb E + (q + 1)), .null, .int 0]) (ob_get1 (n := 2) (by omega)) (hAe _ (by omega)) rfl wl_X8 tyX8 tyX8_ok nmX8 (by decide) wf_X8_15 rfl hin rfl rfl rfl rfl (Nat.le_of_ble_eq_true rfl) dX8_init_17 ?_
  refine JW.ob1 (n := 2) (n' := 3) (e1 := .inr (8, [.null, .int 0, .ref (eb E + (q + 1)), .ref (eb E + (q + 2)), .int 0])) ?_ (by omega) rfl (by omega) (sg0_i kq2 (by omega)).symm
  refine K_aload_n C dX8_init_20 rfl 0 rfl ?_
  refine K_new C wl_X5 tyX5 tyX5_ok wn_X8_18 wi_X5 wz_X5 (ci := 5) rfl (fs := [.null, .null, .null, .null]) (by decide) (by decide) dX8_init_21 ?_
  refine K_dup C dX8_init_24 rfl ?_
  refine K_aload_n C dX8_init_25 rfl 1 rfl ?_
  have k5 : ∀ r, r < 27 → kdO (q + 3 + r) = kbO r := fun r hr => kdO_blk (Or.inr (Or.inr (by omega))) hr
  refine K_call C hAe (ct_X5i (q := q + 3) k5 (by omega) (updM_self _ _ _)) ck_X5i wm_X8_20i wim_X5 rfl ⟨rfl, rfl⟩ (by decide) (by decide) (As := [.ref (eb E + 1)]) (rest := [.ref (eb E + (q + 3)), .ref (eb E + q)]) rfl rfl (Nat.le_of_ble_eq_true rfl) dX8_init_26 ?_
  refine K_putF C (k := 0) (a := eb E + q) (ci := 8) (fs := [.null, .int 0, .ref (eb E + (q + 1)), .ref (eb E + (q + 2)), .int 0]) (ob_get (n := 3) (by omega)) (hAe _ (by omega)) rfl wl_X8 tyX8 tyX8_ok nmX8 (by decide) wf_X8_23 rfl hin rfl rfl rfl rfl (Nat.le_of_ble_eq_true rfl) dX8_init_29 ?_
  refine JW.ob (n := 3) (len := 27) (n' := 30) (e1 := .inr (8, [.ref (eb E + (q + 3)), .int 0, .ref (eb E + (q + 1)), .ref (eb E + (q + 2)), .int 0])) ?_ (by omega) rfl (by omega)
  refine K_ret C (by rw [hmc]; decide) (by rw [hms]; decide) (obM_end (by omega) ?_) dX8_init_32
  rw [clE_k E sg0 kq]
  rw [show clK E sg0 q 15 = (Sum.inr (8, [Value.ref (adE E 34), Value.int (jI (gI sg0 q 1)), Value.ref (adE E 32), Value.ref (adE E 33), Value.int (jI (gI sg0 q 4))]) : va_E) from rfl, adE_lo E (by omega), adE_lo E (by omega), adE_lo E (by omega), sg0_0 (by omega) (by omega), sg0_0 (by omega) (by omega), hq]
  rfl
