/-! constructors: words, the small ones -/
theorem wo_i : Cond.instanceMethod Lib.objectInit ∈ lw_gt := gt_in (List.mem_append_right _ (List.mem_of_getElem? (i := 24) (by decide +kernel))) rfl
theorem wo_c : Cond.code Lib.objectInit ⟨#[0xb1]⟩ 1 none ∈ lw_gt := gt_in (List.mem_append_right _ (List.mem_of_getElem? (i := 25) (by decide +kernel))) rfl
theorem wo_X0 : Cond.methodLink RX0 3 Lib.objectInit ∈ lw_gt := gt_in (List.mem_append_right _ (List.mem_of_getElem? (i := 62) (by decide +kernel))) rfl
theorem wa_int : Cond.arrayClass .int ∈ lw_gt := gt_in (List.mem_append_right _ (List.mem_of_getElem? (i := 73) (by decide +kernel))) rfl
theorem wa_byte : Cond.arrayClass .byte ∈ lw_gt := gt_in (List.mem_append_right _ (List.mem_of_getElem? (i := 50) (by decide +kernel))) rfl
theorem sg0_0 {q : Nat} (h : kdO q ≠ 11) (h2 : q ≠ 280) (j : Int) : gI sg0 q j = 0 := by
  show (if q < 279 ∧ kdO q = 11 then _ else _) = _
  rw [if_neg (fun z => h z.2), if_neg h2]
theorem sg0_i {E : ET} {q : Nat} (h : kdO q = 7) (h2 : q < 279) : clE E sg0 q = (Sum.inl (ecI E, 10, Sum.inl (fun _ => 0)) : va_E) := by
  rw [clE_k E sg0 h]
  show (Sum.inl (ecI E, 10, Sum.inl (fun j : Nat => jI (gI sg0 q (j : Int)))) : va_E) = _
  have e : (fun j : Nat => jI (gI sg0 q (j : Int))) = fun _ => 0 := funext (fun j => by rw [sg0_0 (by omega) (by omega)]; rfl)
  rw [e]
abbrev rm_X0i : Room := { frames := 1, cells := 2, slots := 20, locals := 20 }
theorem ct_X0i {l : Launch} {E : ET} {q : Nat} {M : Nat → Option va_E} (k0 : kdO q = 6) (k1 : kdO (q + 1) = 7) (k2 : kdO (q + 2) = 7) (hq : 3 ≤ q ∧ q + 3 ≤ 279) (hM : M (eb E + q) = some (.inr (0, [.null, .null, .int 0]))) : MetW l E yX0_init cX0_init 1 rm_X0i [.ref (eb E + q)] (eb E + q + 1) M (eb E + q + 1 + 1 + 1) (blM E M q 3) 2 20 (fun a => eb E ≤ a + 1) := by
  refine MetWJ (by decide +kernel) (Nat.le_of_ble_eq_true rfl) lo_A (fun a h => h) rfl ?_
  intro F hl C hA hmc hms hin
  subst hl
  have hAe : ∀ a, eb E ≤ a + 1 → fA F a := fun a h => by rw [hA]; exact h
  show JW F E _ 0 0 (eb E + q + 1) M 0 [(0, .ref (eb E + q))] []
  refine K_aload_n C dX0_init_0 rfl 0 rfl ?_
  refine K_objInit C wo_X0 wo_i wo_c (by decide) (Nat.le_of_ble_eq_true rfl) dX0_init_1 ?_
  refine K_aload_n C dX0_init_4 rfl 0 rfl ?_
  refine K_bipush C dX0_init_5 (by decide) ?_
  refine K_newI C (N := 10) rfl (by decide) wa_int (by decide) dX0_init_7 ?_
  refine K_putF C (k := 0) ((updM_ne (by omega)).trans hM) (hAe _ (by omega)) rfl wl_X0 tyX0 tyX0_ok nmX0 (by decide) wf_X0_9 rfl hin rfl rfl rfl rfl (Nat.le_of_ble_eq_true rfl) dX0_init_9 ?_
  refine K_aload_n C dX0_init_12 rfl 0 rfl ?_
  refine K_bipush C dX0_init_13 (by decide) ?_
  refine K_newI C (N := 10) rfl (by decide) wa_int (by decide) dX0_init_15 ?_
  refine K_putF C (k := 1) ((updM_ne (by omega)).trans (updM_self _ _ _)) (hAe _ (by omega)) rfl wl_X0 tyX0 tyX0_ok nmX0 (by decide) wf_X0_15 rfl hin rfl rfl rfl rfl (Nat.le_of_ble_eq_true rfl) dX0_init_17 ?_
  refine K_ret C (by rw [hmc]; decide) (by rw [hms]; decide) (fun a e ha => ?_) dX0_init_20
  unfold blM at ha
  by_cases h : eb E + q ≤ a ∧ a < eb E + q + 3
  · rw [if_pos h] at ha
    have hc : a = eb E + q ∨ a = eb E + q + 1 ∨ a = eb E + q + 1 + 1 := by omega
    rcases hc with rfl | rfl | rfl
    · rw [updM_self, ← ha, show eb E + q - eb E = q by omega, clE_k E sg0 k0]
      rw [show clK E sg0 q 6 = (Sum.inr (0, [Value.ref (adE E (q + 1)), Value.ref (adE E (q + 2)), Value.int (jI (gI sg0 q 2))]) : va_E) from rfl, adE_lo E (by omega), adE_lo E (by omega), sg0_0 (by omega) (by omega)]
      rfl
    · rw [updM_ne (by omega), updM_ne (by omega), updM_ne (by omega), updM_self, ← ha, show eb E + q + 1 - eb E = q + 1 by omega, sg0_i k1 (by omega)]
    · rw [updM_ne (by omega), updM_self, ← ha, show eb E + q + 1 + 1 - eb E = q + 2 by omega, sg0_i k2 (by omega)]
  · rw [if_neg h] at ha
    have h1 : a ≠ eb E + q := by omega
    have h2 : a ≠ eb E + q + 1 := by omega
    have h3 : a ≠ eb E + q + 1 + 1 := by omega
    rw [updM_ne h1, updM_ne h3, updM_ne h1, updM_ne h2]
    exact ha
