/-! constructors: the reference -/
/-- the first state with an empty page -/
def sgz : Sg := (fun q j => if q < 279 ∧ kdO q = 11 then tabE 8 j.toNat else 0, sg0.2)
def pgF : Nat → Int32 := fun q => if q = (1439 : Int).toNat then jI 16 else if q = (1438 : Int).toNat then jI 6 else if q = (1437 : Int).toNat then jI 2 else if q = (1436 : Int).toNat then jI 24 else if q = (1435 : Int).toNat then jI 2 else 0
theorem sgz_0 {q : Nat} (h : 279 ≤ q) (j : Int) : gI sgz q j = 0 := by
  show (if q < 279 ∧ kdO q = 11 then _ else _) = _
  rw [if_neg (by omega)]
theorem sgz_21 {E : ET} {q : Nat} (h : kdO q = 21) (h2 : 279 ≤ q) : (Sum.inl (ecI E, 12960, Sum.inl (fun _ => 0)) : va_E) = clE E sgz q := by
  rw [clE_k E sgz h]
  have e : (fun j : Nat => jI (gI sgz q (j : Int))) = fun _ => 0 := funext (fun j => by rw [sgz_0 h2]; rfl)
  rw [← e]
  rfl
theorem sgz_22 {E : ET} {q : Nat} (h : kdO q = 22) (h2 : 279 ≤ q) : (Sum.inl (ecI E, 40, Sum.inl (fun _ => 0)) : va_E) = clE E sgz q := by
  rw [clE_k E sgz h]
  have e : (fun j : Nat => jI (gI sgz q (j : Int))) = fun _ => 0 := funext (fun j => by rw [sgz_0 h2]; rfl)
  rw [← e]
  rfl
theorem sgz_23 {E : ET} {q : Nat} (h : kdO q = 23) (h2 : 279 ≤ q) : (Sum.inl (ecI E, 16, Sum.inl (fun _ => 0)) : va_E) = clE E sgz q := by
  rw [clE_k E sgz h]
  have e : (fun j : Nat => jI (gI sgz q (j : Int))) = fun _ => 0 := funext (fun j => by rw [sgz_0 h2]; rfl)
  rw [← e]
  rfl
theorem sgz_24 {E : ET} {q : Nat} (h : kdO q = 24) (h2 : 279 ≤ q) : (Sum.inl (ecI E, 1344, Sum.inl (fun _ => 0)) : va_E) = clE E sgz q := by
  rw [clE_k E sgz h]
  have e : (fun j : Nat => jI (gI sgz q (j : Int))) = fun _ => 0 := funext (fun j => by rw [sgz_0 h2]; rfl)
  rw [← e]
  rfl
theorem sgz_clE {E : ET} {q : Nat} (h : q ≠ 280) : clE E sgz q = clE E sg0 q := by
  unfold clE
  refine clK_congr (fun j => ?_) (fun _ => rfl) rfl
  show (if q < 279 ∧ kdO q = 11 then _ else _) = (if q < 279 ∧ kdO q = 11 then _ else _)
  rw [if_neg h]
abbrev rm_X10i : Room := { frames := 1, cells := 13, slots := 14504, locals := 20 }
set_option maxHeartbeats 8000000 in
theorem ct_X10i {l : Launch} {E : ET} {q : Nat} {M : Nat → Option va_E} (hq : q = 279) (hM : M (eb E + q) = some (.inr (10, [.null, .int 0, .null, .int 0, .null, .null, .null, .null, .null, .int 0, .null, .null, .null, .null, .null, .null, .int 0, .int 0]))) : MetW l E yX10_init cX10_init 1 rm_X10i [.ref (eb E + q)] (eb E + q + 1) M (eb E + (q + 14)) (blM E M q 14) 13 14504 (fun a => eb E ≤ a + 1) := by
  have kq : kdO q = 20 := by subst hq; exact kc279
  have kq1 : kdO (q + 1) = 21 := by subst hq; exact kc280
  have kq2 : kdO (q + 2) = 22 := by subst hq; exact kc281
  have kq3 : kdO (q + 3) = 23 := by subst hq; exact kc282
  have kq4 : kdO (q + 4) = 23 := by subst hq; exact kc283
  have kq5 : kdO (q + 5) = 23 := by subst hq; exact kc284
  have kq6 : kdO (q + 6) = 23 := by subst hq; exact kc285
  have kq7 : kdO (q + 7) = 23 := by subst hq; exact kc286
  have kq8 : kdO (q + 8) = 23 := by subst hq; exact kc287
  have kq9 : kdO (q + 9) = 23 := by subst hq; exact kc288
  have kq10 : kdO (q + 10) = 23 := by subst hq; exact kc289
  have kq11 : kdO (q + 11) = 23 := by subst hq; exact kc290
  have kq12 : kdO (q + 12) = 23 := by subst hq; exact kc291
  have kq13 : kdO (q + 13) = 24 := by subst hq; exact kc292
  refine MetWJ (by decide +kernel) (Nat.le_of_ble_eq_true rfl) lo_A (fun a h => h) rfl ?_
  intro F hl C hA hmc hms hin
  subst hl
  have hAe : ∀ a, eb E ≤ a + 1 → fA F a := fun a h => by rw [hA]; exact h
  show JW F E _ 0 0 (eb E + q + 1) M 0 [(0, .ref (eb E + q))] []
  refine JW.mono (M' := obM E sgz M q 1 (.inr (10, [.null, .int 0, .null, .int 0, .null, .null, .null, .null, .null, .int 0, .null, .null, .null, .null, .null, .null, .int 0, .int 0]))) ?_ (obM_start hM)
  refine K_aload_n C dX10_init_0 rfl 0 rfl ?_
  refine K_objInit C wo_X10 wo_i wo_c (by decide) (Nat.le_of_ble_eq_true rfl) dX10_init_1 ?_
  refine JW.at (z' := eb E + (q + 1)) (by omega) ?_
  refine K_aload_n C dX10_init_4 rfl 0 rfl ?_
  refine K_sipush C dX10_init_5 (by decide) ?_
  refine K_newI C (N := 12960) rfl (Nat.le_of_ble_eq_true rfl) wa_int ⟨Nat.le_of_ble_eq_true rfl, Nat.le_of_ble_eq_true rfl⟩ dX10_init_8 ?_
  refine K_putF C (k := 0) (a := eb E + q) (ci := 10) (fs := [.null, .int 0, .null, .int 0, .null, .null, .null, .null, .null, .int 0, .null, .null, .null, .null, .null, .null, .int 0, .int 0]) (ob_get1 (n := 1) (by omega)) (hAe _ (by omega)) rfl wl_X10 tyX10 tyX10_ok nmX10 (by decide) wf_X10_7 rfl hin rfl rfl rfl rfl (Nat.le_of_ble_eq_true rfl) dX10_init_10 ?_
  refine JW.ob1 (n := 1) (n' := 2) (e1 := .inr (10, [.ref (eb E + (q + 1)), .int 0, .null, .int 0, .null, .null, .null, .null, .null, .int 0, .null, .null, .null, .null, .null, .null, .int 0, .int 0])) ?_ (by omega) rfl (by omega) (sgz_21 kq1 (by omega))
  refine K_aload_n C dX10_init_13 rfl 0 rfl ?_
  refine K_bipush C dX10_init_14 (by decide) ?_
  refine K_newI C (N := 40) rfl (Nat.le_of_ble_eq_true rfl) wa_int ⟨Nat.le_of_ble_eq_true rfl, Nat.le_of_ble_eq_true rfl⟩ dX10_init_16 ?_
  refine K_putF C (k := 2) (a := eb E + q) (ci := 10) (fs := [.ref (eb E + (q + 1)), .int 0, .null, .int 0, .null, .null, .null, .null, .null, .int 0, .null, .null, .null, .null, .null, .null, .int 0, .int 0]) (ob_get1 (n := 2) (by omega)) (hAe _ (by omega)) rfl wl_X10 tyX10 tyX10_ok nmX10 (by decide) wf_X10_13 rfl hin rfl rfl rfl rfl (Nat.le_of_ble_eq_true rfl) dX10_init_18 ?_
  refine JW.ob1 (n := 2) (n' := 3) (e1 := .inr (10, [.ref (eb E + (q + 1)), .int 0, .ref (eb E + (q + 2)), .int 0, .null, .null, .null, .null, .null, .int 0, .null, .null, .null, .null, .null, .null, .int 0, .int 0])) ?_ (by omega) rfl (by omega) (sgz_22 kq2 (by omega))
  refine K_aload_n C dX10_init_21 rfl 0 rfl ?_
  refine K_bipush C dX10_init_22 (by decide) ?_
  refine K_newI C (N := 16) rfl (Nat.le_of_ble_eq_true rfl) wa_int ⟨Nat.le_of_ble_eq_true rfl, Nat.le_of_ble_eq_true rfl⟩ dX10_init_24 ?_
  refine K_putF C (k := 4) (a := eb E + q) (ci := 10) (fs := [.ref (eb E + (q + 1)), .int 0, .ref (eb E + (q + 2)), .int 0, .null, .null, .null, .null, .null, .int 0, .null, .null, .null, .null, .null, .null, .int 0, .int 0]) (ob_get1 (n := 3) (by omega)) (hAe _ (by omega)) rfl wl_X10 tyX10 tyX10_ok nmX10 (by decide) wf_X10_16 rfl hin rfl rfl rfl rfl (Nat.le_of_ble_eq_true rfl) dX10_init_26 ?_
  refine JW.ob1 (n := 3) (n' := 4) (e1 := .inr (10, [.ref (eb E + (q + 1)), .int 0, .ref (eb E + (q + 2)), .int 0, .ref (eb E + (q + 3)), .null, .null, .null, .null, .int 0, .null, .null, .null, .null, .null, .null, .int 0, .int 0])) ?_ (by omega) rfl (by omega) (sgz_23 kq3 (by omega))
  refine K_aload_n C dX10_init_29 rfl 0 rfl ?_
  refine K_bipush C dX10_init_30 (by decide) ?_
  refine K_newI C (N := 16) rfl (Nat.le_of_ble_eq_true rfl) wa_int ⟨Nat.le_of_ble_eq_true rfl, Nat.le_of_ble_eq_true rfl⟩ dX10_init_32 ?_
  refine K_putF C (k := 5) (a := eb E + q) (ci := 10) (fs := [.ref (eb E + (q + 1)), .int 0, .ref (eb E + (q + 2)), .int 0, .ref (eb E + (q + 3)), .null, .null, .null, .null, .int 0, .null, .null, .null, .null, .null, .null, .int 0, .int 0]) (ob_get1 (n := 4) (by omega)) (hAe _ (by omega)) rfl wl_X10 tyX10 tyX10_ok nmX10 (by decide) wf_X10_19 rfl hin rfl rfl rfl rfl (Nat.le_of_ble_eq_true rfl) dX10_init_34 ?_
  refine JW.ob1 (n := 4) (n' := 5) (e1 := .inr (10, [.ref (eb E + (q + 1)), .int 0, .ref (eb E + (q + 2)), .int 0, .ref (eb E + (q + 3)), .ref (eb E + (q + 4)), .null, .null, .null, .int 0, .null, .null, .null, .null, .null, .null, .int 0, .int 0])) ?_ (by omega) rfl (by omega) (sgz_23 kq4 (by omega))
  refine K_aload_n C dX10_init_37 rfl 0 rfl ?_
  refine K_bipush C dX10_init_38 (by decide) ?_
  refine K_newI C (N := 16) rfl (Nat.le_of_ble_eq_true rfl) wa_int ⟨Nat.le_of_ble_eq_true rfl, Nat.le_of_ble_eq_true rfl⟩ dX10_init_40 ?_
  refine K_putF C (k := 6) (a := eb E + q) (ci := 10) (fs := [.ref (eb E + (q + 1)), .int 0, .ref (eb E + (q + 2)), .int 0, .ref (eb E + (q + 3)), .ref (eb E + (q + 4)), .null, .null, .null, .int 0, .null, .null, .null, .null, .null, .null, .int 0, .int 0]) (ob_get1 (n := 5) (by omega)) (hAe _ (by omega)) rfl wl_X10 tyX10 tyX10_ok nmX10 (by decide) wf_X10_22 rfl hin rfl rfl rfl rfl (Nat.le_of_ble_eq_true rfl) dX10_init_42 ?_
  refine JW.ob1 (n := 5) (n' := 6) (e1 := .inr (10, [.ref (eb E + (q + 1)), .int 0, .ref (eb E + (q + 2)), .int 0, .ref (eb E + (q + 3)), .ref (eb E + (q + 4)), .ref (eb E + (q + 5)), .null, .null, .int 0, .null, .null, .null, .null, .null, .null, .int 0, .int 0])) ?_ (by omega) rfl (by omega) (sgz_23 kq5 (by omega))
  refine K_aload_n C dX10_init_45 rfl 0 rfl ?_
  refine K_bipush C dX10_init_46 (by decide) ?_
  refine K_newI C (N := 16) rfl (Nat.le_of_ble_eq_true rfl) wa_int ⟨Nat.le_of_ble_eq_true rfl, Nat.le_of_ble_eq_true rfl⟩ dX10_init_48 ?_
  refine K_putF C (k := 7) (a := eb E + q) (ci := 10) (fs := [.ref (eb E + (q + 1)), .int 0, .ref (eb E + (q + 2)), .int 0, .ref (eb E + (q + 3)), .ref (eb E + (q + 4)), .ref (eb E + (q + 5)), .null, .null, .int 0, .null, .null, .null, .null, .null, .null, .int 0, .int 0]) (ob_get1 (n := 6) (by omega)) (hAe _ (by omega)) rfl wl_X10 tyX10 tyX10_ok nmX10 (by decide) wf_X10_25 rfl hin rfl rfl rfl rfl (Nat.le_of_ble_eq_true rfl) dX10_init_50 ?_
  refine JW.ob1 (n := 6) (n' := 7) (e1 := .inr (10, [.ref (eb E + (q + 1)), .int 0, .ref (eb E + (q + 2)), .int 0, .ref (eb E + (q + 3)), .ref (eb E + (q + 4)), .ref (eb E + (q + 5)), .ref (eb E + (q + 6)), .null, .int 0, .null, .null, .null, .null, .null, .null, .int 0, .int 0])) ?_ (by omega) rfl (by omega) (sgz_23 kq6 (by omega))
  refine K_aload_n C dX10_init_53 rfl 0 rfl ?_
  refine K_bipush C dX10_init_54 (by decide) ?_
  refine K_newI C (N := 16) rfl (Nat.le_of_ble_eq_true rfl) wa_int ⟨Nat.le_of_ble_eq_true rfl, Nat.le_of_ble_eq_true rfl⟩ dX10_init_56 ?_
  refine K_putF C (k := 8) (a := eb E + q) (ci := 10) (fs := [.ref (eb E + (q + 1)), .int 0, .ref (eb E + (q + 2)), .int 0, .ref (eb E + (q + 3)), .ref (eb E + (q + 4)), .ref (eb E + (q + 5)), .ref (eb E + (q + 6)), .null, .int 0, .null, .null, .null, .null, .null, .null, .int 0, .int 0]) (ob_get1 (n := 7) (by omega)) (hAe _ (by omega)) rfl wl_X10 tyX10 tyX10_ok nmX10 (by decide) wf_X10_28 rfl hin rfl rfl rfl rfl (Nat.le_of_ble_eq_true rfl) dX10_init_58 ?_
  refine JW.ob1 (n := 7) (n' := 8) (e1 := .inr (10, [.ref (eb E + (q + 1)), .int 0, .ref (eb E + (q + 2)), .int 0, .ref (eb E + (q + 3)), .ref (eb E + (q + 4)), .ref (eb E + (q + 5)), .ref (eb E + (q + 6)), .ref (eb E + (q + 7)), .int 0, .null, .null, .null, .null, .null, .null, .int 0, .int 0])) ?_ (by omega) rfl (by omega) (sgz_23 kq7 (by omega))
  refine K_aload_n C dX10_init_61 rfl 0 rfl ?_
  refine K_bipush C dX10_init_62 (by decide) ?_
  refine K_newI C (N := 16) rfl (Nat.le_of_ble_eq_true rfl) wa_int ⟨Nat.le_of_ble_eq_true rfl, Nat.le_of_ble_eq_true rfl⟩ dX10_init_64 ?_
  refine K_putF C (k := 10) (a := eb E + q) (ci := 10) (fs := [.ref (eb E + (q + 1)), .int 0, .ref (eb E + (q + 2)), .int 0, .ref (eb E + (q + 3)), .ref (eb E + (q + 4)), .ref (eb E + (q + 5)), .ref (eb E + (q + 6)), .ref (eb E + (q + 7)), .int 0, .null, .null, .null, .null, .null, .null, .int 0, .int 0]) (ob_get1 (n := 8) (by omega)) (hAe _ (by omega)) rfl wl_X10 tyX10 tyX10_ok nmX10 (by decide) wf_X10_31 rfl hin rfl rfl rfl rfl (Nat.le_of_ble_eq_true rfl) dX10_init_66 ?_
  refine JW.ob1 (n := 8) (n' := 9) (e1 := .inr (10, [.ref (eb E + (q + 1)), .int 0, .ref (eb E + (q + 2)), .int 0, .ref (eb E + (q + 3)), .ref (eb E + (q + 4)), .ref (eb E + (q + 5)), .ref (eb E + (q + 6)), .ref (eb E + (q + 7)), .int 0, .ref (eb E + (q + 8)), .null, .null, .null, .null, .null, .int 0, .int 0])) ?_ (by omega) rfl (by omega) (sgz_23 kq8 (by omega))
  refine K_aload_n C dX10_init_69 rfl 0 rfl ?_
  refine K_bipush C dX10_init_70 (by decide) ?_
  refine K_newI C (N := 16) rfl (Nat.le_of_ble_eq_true rfl) wa_int ⟨Nat.le_of_ble_eq_true rfl, Nat.le_of_ble_eq_true rfl⟩ dX10_init_72 ?_
  refine K_putF C (k := 11) (a := eb E + q) (ci := 10) (fs := [.ref (eb E + (q + 1)), .int 0, .ref (eb E + (q + 2)), .int 0, .ref (eb E + (q + 3)), .ref (eb E + (q + 4)), .ref (eb E + (q + 5)), .ref (eb E + (q + 6)), .ref (eb E + (q + 7)), .int 0, .ref (eb E + (q + 8)), .null, .null, .null, .null, .null, .int 0, .int 0]) (ob_get1 (n := 9) (by omega)) (hAe _ (by omega)) rfl wl_X10 tyX10 tyX10_ok nmX10 (by decide) wf_X10_34 rfl hin rfl rfl rfl rfl (Nat.le_of_ble_eq_true rfl) dX10_init_74 ?_
  refine JW.ob1 (n := 9) (n' := 10) (e1 := .inr (10, [.ref (eb E + (q + 1)), .int 0, .ref (eb E + (q + 2)), .int 0, .ref (eb E + (q + 3)), .ref (eb E + (q + 4)), .ref (eb E + (q + 5)), .ref (eb E + (q + 6)), .ref (eb E + (q + 7)), .int 0, .ref (eb E + (q + 8)), .ref (eb E + (q + 9)), .null, .null, .null, .null, .int 0, .int 0])) ?_ (by omega) rfl (by omega) (sgz_23 kq9 (by omega))
  refine K_aload_n C dX10_init_77 rfl 0 rfl ?_
  refine K_bipush C dX10_init_78 (by decide) ?_
  refine K_newI C (N := 16) rfl (Nat.le_of_ble_eq_true rfl) wa_int ⟨Nat.le_of_ble_eq_true rfl, Nat.le_of_ble_eq_true rfl⟩ dX10_init_80 ?_
  refine K_putF C (k := 12) (a := eb E + q) (ci := 10) (fs := [.ref (eb E + (q + 1)), .int 0, .ref (eb E + (q + 2)), .int 0, .ref (eb E + (q + 3)), .ref (eb E + (q + 4)), .ref (eb E + (q + 5)), .ref (eb E + (q + 6)), .ref (eb E + (q + 7)), .int 0, .ref (eb E + (q + 8)), .ref (eb E + (q + 9)), .null, .null, .null, .null, .int 0, .int 0]) (ob_get1 (n := 10) (by omega)) (hAe _ (by omega)) rfl wl_X10 tyX10 tyX10_ok nmX10 (by decide) wf_X10_37 rfl hin rfl rfl rfl rfl (Nat.le_of_ble_eq_true rfl) dX10_init_82 ?_
  refine JW.ob1 (n := 10) (n' := 11) (e1 := .inr (10, [.ref (eb E + (q + 1)), .int 0, .ref (eb E + (q + 2)), .int 0, .ref (eb E + (q + 3)), .ref (eb E + (q + 4)), .ref (eb E + (q + 5)), .ref (eb E + (q + 6)), .ref (eb E + (q + 7)), .int 0, .ref (eb E + (q + 8)), .ref (eb E + (q + 9)), .ref (eb E + (q + 10)), .null, .null, .null, .int 0, .int 0])) ?_ (by omega) rfl (by omega) (sgz_23 kq10 (by omega))
  refine K_aload_n C dX10_init_85 rfl 0 rfl ?_
  refine K_bipush C dX10_init_86 (by decide) ?_
  refine K_newI C (N := 16) rfl (Nat.le_of_ble_eq_true rfl) wa_int ⟨Nat.le_of_ble_eq_true rfl, Nat.le_of_ble_eq_true rfl⟩ dX10_init_88 ?_
  refine K_putF C (k := 13) (a := eb E + q) (ci := 10) (fs := [.ref (eb E + (q + 1)), .int 0, .ref (eb E + (q + 2)), .int 0, .ref (eb E + (q + 3)), .ref (eb E + (q + 4)), .ref (eb E + (q + 5)), .ref (eb E + (q + 6)), .ref (eb E + (q + 7)), .int 0, .ref (eb E + (q + 8)), .ref (eb E + (q + 9)), .ref (eb E + (q + 10)), .null, .null, .null, .int 0, .int 0]) (ob_get1 (n := 11) (by omega)) (hAe _ (by omega)) rfl wl_X10 tyX10 tyX10_ok nmX10 (by decide) wf_X10_40 rfl hin rfl rfl rfl rfl (Nat.le_of_ble_eq_true rfl) dX10_init_90 ?_
  refine JW.ob1 (n := 11) (n' := 12) (e1 := .inr (10, [.ref (eb E + (q + 1)), .int 0, .ref (eb E + (q + 2)), .int 0, .ref (eb E + (q + 3)), .ref (eb E + (q + 4)), .ref (eb E + (q + 5)), .ref (eb E + (q + 6)), .ref (eb E + (q + 7)), .int 0, .ref (eb E + (q + 8)), .ref (eb E + (q + 9)), .ref (eb E + (q + 10)), .ref (eb E + (q + 11)), .null, .null, .int 0, .int 0])) ?_ (by omega) rfl (by omega) (sgz_23 kq11 (by omega))
  refine K_aload_n C dX10_init_93 rfl 0 rfl ?_
  refine K_bipush C dX10_init_94 (by decide) ?_
  refine K_newI C (N := 16) rfl (Nat.le_of_ble_eq_true rfl) wa_int ⟨Nat.le_of_ble_eq_true rfl, Nat.le_of_ble_eq_true rfl⟩ dX10_init_96 ?_
  refine K_putF C (k := 14) (a := eb E + q) (ci := 10) (fs := [.ref (eb E + (q + 1)), .int 0, .ref (eb E + (q + 2)), .int 0, .ref (eb E + (q + 3)), .ref (eb E + (q + 4)), .ref (eb E + (q + 5)), .ref (eb E + (q + 6)), .ref (eb E + (q + 7)), .int 0, .ref (eb E + (q + 8)), .ref (eb E + (q + 9)), .ref (eb E + (q + 10)), .ref (eb E + (q + 11)), .null, .null, .int 0, .int 0]) (ob_get1 (n := 12) (by omega)) (hAe _ (by omega)) rfl wl_X10 tyX10 tyX10_ok nmX10 (by decide) wf_X10_43 rfl hin rfl rfl rfl rfl (Nat.le_of_ble_eq_true rfl) dX10_init_98 ?_
  refine JW.ob1 (n := 12) (n' := 13) (e1 := .inr (10, [.ref (eb E + (q + 1)), .int 0, .ref (eb E + (q + 2)), .int 0, .ref (eb E + (q + 3)), .ref (eb E + (q + 4)), .ref (eb E + (q + 5)), .ref (eb E + (q + 6)), .ref (eb E + (q + 7)), .int 0, .ref (eb E + (q + 8)), .ref (eb E + (q + 9)), .ref (eb E + (q + 10)), .ref (eb E + (q + 11)), .ref (eb E + (q + 12)), .null, .int 0, .int 0])) ?_ (by omega) rfl (by omega) (sgz_23 kq12 (by omega))
  refine K_aload_n C dX10_init_101 rfl 0 rfl ?_
  refine K_sipush C dX10_init_102 (by decide) ?_
  refine K_newI C (N := 1344) rfl (Nat.le_of_ble_eq_true rfl) wa_int ⟨Nat.le_of_ble_eq_true rfl, Nat.le_of_ble_eq_true rfl⟩ dX10_init_105 ?_
  refine K_putF C (k := 15) (a := eb E + q) (ci := 10) (fs := [.ref (eb E + (q + 1)), .int 0, .ref (eb E + (q + 2)), .int 0, .ref (eb E + (q + 3)), .ref (eb E + (q + 4)), .ref (eb E + (q + 5)), .ref (eb E + (q + 6)), .ref (eb E + (q + 7)), .int 0, .ref (eb E + (q + 8)), .ref (eb E + (q + 9)), .ref (eb E + (q + 10)), .ref (eb E + (q + 11)), .ref (eb E + (q + 12)), .null, .int 0, .int 0]) (ob_get1 (n := 13) (by omega)) (hAe _ (by omega)) rfl wl_X10 tyX10 tyX10_ok nmX10 (by decide) wf_X10_46 rfl hin rfl rfl rfl rfl (Nat.le_of_ble_eq_true rfl) dX10_init_107 ?_
  refine JW.ob1 (n := 13) (n' := 14) (e1 := .inr (10, [.ref (eb E + (q + 1)), .int 0, .ref (eb E + (q + 2)), .int 0, .ref (eb E + (q + 3)), .ref (eb E + (q + 4)), .ref (eb E + (q + 5)), .ref (eb E + (q + 6)), .ref (eb E + (q + 7)), .int 0, .ref (eb E + (q + 8)), .ref (eb E + (q + 9)), .ref (eb E + (q + 10)), .ref (eb E + (q + 11)), .ref (eb E + (q + 12)), .ref (eb E + (q + 13)), .int 0, .int 0])) ?_ (by omega) rfl (by omega) (sgz_24 kq13 (by omega))
  have hb0 : obM E sgz M q 14 (.inr (10, [.ref (eb E + (q + 1)), .int 0, .ref (eb E + (q + 2)), .int 0, .ref (eb E + (q + 3)), .ref (eb E + (q + 4)), .ref (eb E + (q + 5)), .ref (eb E + (q + 6)), .ref (eb E + (q + 7)), .int 0, .ref (eb E + (q + 8)), .ref (eb E + (q + 9)), .ref (eb E + (q + 10)), .ref (eb E + (q + 11)), .ref (eb E + (q + 12)), .ref (eb E + (q + 13)), .int 0, .int 0])) (eb E + q) = some (.inr (10, [.ref (eb E + (q + 1)), .int 0, .ref (eb E + (q + 2)), .int 0, .ref (eb E + (q + 3)), .ref (eb E + (q + 4)), .ref (eb E + (q + 5)), .ref (eb E + (q + 6)), .ref (eb E + (q + 7)), .int 0, .ref (eb E + (q + 8)), .ref (eb E + (q + 9)), .ref (eb E + (q + 10)), .ref (eb E + (q + 11)), .ref (eb E + (q + 12)), .ref (eb E + (q + 13)), .int 0, .int 0])) := obM_b
  have hp0 : obM E sgz M q 14 (.inr (10, [.ref (eb E + (q + 1)), .int 0, .ref (eb E + (q + 2)), .int 0, .ref (eb E + (q + 3)), .ref (eb E + (q + 4)), .ref (eb E + (q + 5)), .ref (eb E + (q + 6)), .ref (eb E + (q + 7)), .int 0, .ref (eb E + (q + 8)), .ref (eb E + (q + 9)), .ref (eb E + (q + 10)), .ref (eb E + (q + 11)), .ref (eb E + (q + 12)), .ref (eb E + (q + 13)), .int 0, .int 0])) (eb E + (q + 1)) = some (.inl (ecI E, 12960, .inl (fun _ => 0))) := by
    unfold obM
    rw [if_neg (by omega), if_pos (by omega), show eb E + (q + 1) - eb E = q + 1 by omega, sgz_21 kq1 (by omega)]
  refine K_aload_n C dX10_init_110 rfl 0 rfl ?_
  refine K_get C hb0 rfl wl_X10 0 (by decide) wf_X10_7 rfl dX10_init_111 ?_
  refine K_sipush C dX10_init_114 (by decide) ?_
  refine K_iconst C dX10_init_117 ?_
  refine K_iast C (n := 12960) (j := 1435) hp0 (hAe _ (by omega)) (Nat.le_of_ble_eq_true rfl) (by decide) (by decide) dX10_init_118 ?_
  refine K_aload_n C dX10_init_119 rfl 0 rfl ?_
  refine K_get C ((updM_ne (by omega)).trans hb0) rfl wl_X10 0 (by decide) wf_X10_7 rfl dX10_init_120 ?_
  refine K_sipush C dX10_init_123 (by decide) ?_
  refine K_bipush C dX10_init_126 (by decide) ?_
  refine K_iast C (n := 12960) (j := 1436) (updM_self _ _ _) (hAe _ (by omega)) (Nat.le_of_ble_eq_true rfl) (by decide) (by decide) dX10_init_128 ?_
  refine K_aload_n C dX10_init_129 rfl 0 rfl ?_
  refine K_get C ((updM_ne (by omega)).trans ((updM_ne (by omega)).trans hb0)) rfl wl_X10 0 (by decide) wf_X10_7 rfl dX10_init_130 ?_
  refine K_sipush C dX10_init_133 (by decide) ?_
  refine K_iconst C dX10_init_136 ?_
  refine K_iast C (n := 12960) (j := 1437) (updM_self _ _ _) (hAe _ (by omega)) (Nat.le_of_ble_eq_true rfl) (by decide) (by decide) dX10_init_137 ?_
  refine K_aload_n C dX10_init_138 rfl 0 rfl ?_
  refine K_get C ((updM_ne (by omega)).trans ((updM_ne (by omega)).trans ((updM_ne (by omega)).trans hb0))) rfl wl_X10 0 (by decide) wf_X10_7 rfl dX10_init_139 ?_
  refine K_sipush C dX10_init_142 (by decide) ?_
  refine K_bipush C dX10_init_145 (by decide) ?_
  refine K_iast C (n := 12960) (j := 1438) (updM_self _ _ _) (hAe _ (by omega)) (Nat.le_of_ble_eq_true rfl) (by decide) (by decide) dX10_init_147 ?_
  refine K_aload_n C dX10_init_148 rfl 0 rfl ?_
  refine K_get C ((updM_ne (by omega)).trans ((updM_ne (by omega)).trans ((updM_ne (by omega)).trans ((updM_ne (by omega)).trans hb0)))) rfl wl_X10 0 (by decide) wf_X10_7 rfl dX10_init_149 ?_
  refine K_sipush C dX10_init_152 (by decide) ?_
  refine K_bipush C dX10_init_155 (by decide) ?_
  refine K_iast C (n := 12960) (j := 1439) (updM_self _ _ _) (hAe _ (by omega)) (Nat.le_of_ble_eq_true rfl) (by decide) (by decide) dX10_init_157 ?_
  refine K_ret C (by rw [hmc]; decide) (by rw [hms]; decide) (fun a e ha => ?_) dX10_init_158
  unfold blM at ha
  by_cases h2 : a = eb E + (q + 1)
  · rw [if_pos (by omega)] at ha
    rw [h2, updM_self, ← ha, h2, show eb E + (q + 1) - eb E = q + 1 by omega, clE_k E sg0 kq1]
    have ef : (fun j : Nat => jI (gI sg0 (q + 1) (j : Int))) = pgF := funext (fun j => by
      have e2 : gI sg0 (q + 1) (j : Int) = if (j : Int) = 1435 then 2 else if (j : Int) = 1436 then 24 else if (j : Int) = 1437 then 2 else if (j : Int) = 1438 then 6 else if (j : Int) = 1439 then 16 else 0 := by
        show (if q + 1 < 279 ∧ kdO (q + 1) = 11 then _ else if q + 1 = 280 then _ else _) = _
        rw [if_neg (by omega), if_pos (by omega)]
      rw [e2]
      unfold pgF
      by_cases j5 : j = 1435
      · subst j5; decide
      by_cases j6 : j = 1436
      · subst j6; decide
      by_cases j7 : j = 1437
      · subst j7; decide
      by_cases j8 : j = 1438
      · subst j8; decide
      by_cases j9 : j = 1439
      · subst j9; decide
      rw [if_neg (by omega), if_neg (by omega), if_neg (by omega), if_neg (by omega), if_neg (by omega), if_neg (by omega), if_neg (by omega), if_neg (by omega), if_neg (by omega), if_neg (by omega)]
      rfl)
    rw [show clK E sg0 (q + 1) 21 = (Sum.inl (ecI E, 12960, Sum.inl (fun j : Nat => jI (gI sg0 (q + 1) (j : Int)))) : va_E) from rfl, ef]
    rfl
  · rw [updM_ne h2, updM_ne h2, updM_ne h2, updM_ne h2, updM_ne h2]
    unfold obM
    by_cases h1 : a = eb E + q
    · rw [if_pos (by omega)] at ha
      rw [if_pos h1, ← ha, h1, show eb E + q - eb E = q by omega, clE_k E sg0 kq]
      have hz : ∀ j, gI sg0 q j = 0 := fun j => sg0_0 (by omega) (by omega) j
      rw [show clK E sg0 q 20 = (Sum.inr (10, [.ref (adE E 280), .int (jI (gI sg0 q 1)), .ref (adE E 281), .int (jI (gI sg0 q 3)), .ref (adE E 282), .ref (adE E 283), .ref (adE E 284), .ref (adE E 285), .ref (adE E 286), .int (jI (gI sg0 q 9)), .ref (adE E 287), .ref (adE E 288), .ref (adE E 289), .ref (adE E 290), .ref (adE E 291), .ref (adE E 292), .int (jI (gI sg0 q 16)), .int (jI (gI sg0 q 17))]) : va_E) from rfl, adE_lo E (by omega), adE_lo E (by omega), adE_lo E (by omega), adE_lo E (by omega), adE_lo E (by omega), adE_lo E (by omega), adE_lo E (by omega), adE_lo E (by omega), adE_lo E (by omega), adE_lo E (by omega), adE_lo E (by omega), adE_lo E (by omega), adE_lo E (by omega), hz, hz, hz, hz, hz, hq]
      rfl
    · rw [if_neg h1]
      by_cases h4 : eb E + q < a ∧ a < eb E + (q + 14)
      · rw [if_pos h4, sgz_clE (by omega)]
        rw [if_pos (by omega)] at ha
        exact ha
      · rw [if_neg h4]
        rw [if_neg (by omega)] at ha
        exact ha
