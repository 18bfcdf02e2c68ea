/-! constructors: Shots, Subtitle -/
theorem wo_X4 : Cond.methodLink RX4 3 Lib.objectInit ∈ lw_gt := gt_in (List.mem_append_right _ (List.mem_of_getElem? (i := 79) (by decide +kernel))) rfl
theorem wo_X6 : Cond.methodLink RX6 1 Lib.objectInit ∈ lw_gt := gt_in (List.mem_append_right _ (List.mem_of_getElem? (i := 112) (by decide +kernel))) rfl
abbrev rm_X4i : Room := { frames := 1, cells := 1, slots := 20, locals := 20 }
abbrev rm_X6i : Room := { frames := 1, cells := 0, slots := 0, locals := 20 }
theorem ct_X4i {l : Launch} {E : ET} {q : Nat} {M : Nat → Option va_E} (k0 : kdO q = 8) (k1 : kdO (q + 1) = 9) (hq : 3 ≤ q ∧ q + 2 ≤ 279) (hM : M (eb E + q) = some (.inr (4, [.null, .int 0]))) : MetW l E yX4_init cX4_init 1 rm_X4i [.ref (eb E + q)] (eb E + q + 1) M (eb E + q + 1 + 1) (blM E M q 2) 1 20 (fun a => eb E ≤ a + 1) := by
  refine MetWJ (by decide +kernel) (Nat.le_of_ble_eq_true rfl) lo_A (fun a h => h) rfl ?_
  intro F hl C hA hmc hms hin
  subst hl
  have hAe : ∀ a, eb E ≤ a + 1 → fA F a := fun a h => by rw [hA]; exact h
  show JW F E _ 0 0 (eb E + q + 1) M 0 [(0, .ref (eb E + q))] []
  refine K_aload_n C dX4_init_0 rfl 0 rfl ?_
  refine K_objInit C wo_X4 wo_i wo_c (by decide) (Nat.le_of_ble_eq_true rfl) dX4_init_1 ?_
  refine K_aload_n C dX4_init_4 rfl 0 rfl ?_
  refine K_bipush C dX4_init_5 (by decide) ?_
  refine K_newI C (N := 20) rfl (by decide) wa_int (by decide) dX4_init_7 ?_
  refine K_putF C (k := 0) ((updM_ne (by omega)).trans hM) (hAe _ (by omega)) rfl wl_X4 tyX4 tyX4_ok nmX4 (by decide) wf_X4_9 rfl hin rfl rfl rfl rfl (Nat.le_of_ble_eq_true rfl) dX4_init_9 ?_
  refine K_ret C (by rw [hmc]; decide) (by rw [hms]; decide) (fun a e ha => ?_) dX4_init_12
  unfold blM at ha
  by_cases h : eb E + q ≤ a ∧ a < eb E + q + 2
  · rw [if_pos h] at ha
    have hc : a = eb E + q ∨ a = eb E + q + 1 := by omega
    rcases hc with rfl | rfl
    · rw [updM_self, ← ha, show eb E + q - eb E = q by omega, clE_k E sg0 k0]
      rw [show clK E sg0 q 8 = (Sum.inr (4, [Value.ref (adE E (q + 1)), Value.int (jI (gI sg0 q 1))]) : va_E) from rfl, adE_lo E (by omega), sg0_0 (by omega) (by omega)]
      rfl
    · rw [updM_ne (by omega), updM_self, ← ha, show eb E + q + 1 - eb E = q + 1 by omega, clE_k E sg0 k1]
      have e : (fun j : Nat => jI (gI sg0 (q + 1) (j : Int))) = fun _ => 0 := funext (fun j => by rw [sg0_0 (by omega) (by omega)]; rfl)
      rw [show clK E sg0 (q + 1) 9 = (Sum.inl (ecI E, 20, Sum.inl (fun j : Nat => jI (gI sg0 (q + 1) (j : Int)))) : va_E) from rfl, e]
  · rw [if_neg h] at ha
    have h1 : a ≠ eb E + q := by omega
    have h2 : a ≠ eb E + q + 1 := by omega
    rw [updM_ne h1, updM_ne h2]
    exact ha
theorem ct_X6i {l : Launch} {E : ET} {q : Nat} {M : Nat → Option va_E} (k0 : kdO q = 14) (hq : 3 ≤ q ∧ q + 1 ≤ 279) (hM : M (eb E + q) = some (.inr (6, [.int 0, .int 0, .int 0, .null, .null]))) : MetW l E yX6_init cX6_init 2 rm_X6i [.ref (eb E + q), .ref (eb E + 1)] (eb E + q + 1) M (eb E + q + 1) (blM E M q 1) 0 0 (fun a => eb E ≤ a + 1) := by
  refine MetWJ (by decide +kernel) (Nat.le_of_ble_eq_true rfl) lo_A (fun a h => h) rfl ?_
  intro F hl C hA hmc hms hin
  subst hl
  have hAe : ∀ a, eb E ≤ a + 1 → fA F a := fun a h => by rw [hA]; exact h
  show JW F E _ 0 0 (eb E + q + 1) M 0 [(0, .ref (eb E + q)), (1, .ref (eb E + 1))] []
  refine K_aload_n C dX6_init_0 rfl 0 rfl ?_
  refine K_objInit C wo_X6 wo_i wo_c (by decide) (Nat.le_of_ble_eq_true rfl) dX6_init_1 ?_
  refine K_aload_n C dX6_init_4 rfl 0 rfl ?_
  refine K_aload_n C dX6_init_5 rfl 1 rfl ?_
  refine K_put C (k := 3) hM (hAe _ (by omega)) rfl wl_X6 tyX6 tyX6_ok nmX6 (by decide) wf_X6_7 rfl rfl rfl rfl (Nat.le_of_ble_eq_true rfl) dX6_init_6 ?_
  refine K_aload_n C dX6_init_9 rfl 0 rfl ?_
  refine K_aload_n C dX6_init_10 rfl 1 rfl ?_
  refine K_put C (k := 4) (updM_self _ _ _) (hAe _ (by omega)) rfl wl_X6 tyX6 tyX6_ok nmX6 (by decide) wf_X6_13 rfl rfl rfl rfl (Nat.le_of_ble_eq_true rfl) dX6_init_11 ?_
  refine K_ret C (by rw [hmc]; decide) (by rw [hms]; decide) (fun a e ha => ?_) dX6_init_14
  unfold blM at ha
  by_cases h : eb E + q ≤ a ∧ a < eb E + q + 1
  · rw [if_pos h] at ha
    have hc : a = eb E + q := by omega
    subst hc
    rw [updM_self, ← ha, show eb E + q - eb E = q by omega, clE_k E sg0 k0]
    have e3 : ∀ j, gR sg0 q j = 2 := fun j => by
      show (if kdO q = 13 then _ else if kdO q = 14 then 2 else _) = 2
      rw [if_neg (by omega), if_pos k0]
    rw [show clK E sg0 q 14 = (Sum.inr (6, [Value.int (jI (gI sg0 q 0)), Value.int (jI (gI sg0 q 1)), Value.int (jI (gI sg0 q 2)), Value.ref (adE E (gR sg0 q 3)), Value.ref (adE E (gR sg0 q 4))]) : va_E) from rfl, e3, e3, adE_2, sg0_0 (by omega) (by omega), sg0_0 (by omega) (by omega), sg0_0 (by omega) (by omega)]
    rfl
  · rw [if_neg h] at ha
    have h1 : a ≠ eb E + q := by omega
    rw [updM_ne h1, updM_ne h1]
    exact ha
