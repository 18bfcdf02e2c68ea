/-! constructors: an object under construction, and what lies behind it; Settings, State -/
def obM (E : ET) (σ : Sg) (M : Nat → Option va_E) (q n : Nat) (e0 : va_E) : Nat → Option va_E := fun a =>
  if a = eb E + q then some e0 else if eb E + q < a ∧ a < eb E + (q + n) then some (clE E σ (a - eb E)) else M a
section OB
variable {F : FT} {E : ET} {σ : Sg} {c0 s0 z q n n' len : Nat} {M : Nat → Option va_E} {pc : Nat} {lv : List (Nat × Value)} {st : List Value} {Q : State → Prop} {e0 e1 x : va_E}
theorem JW.at {z' : Nat} (e : z = z') (k : JW F E Q c0 s0 z' M pc lv st) : JW F E Q c0 s0 z M pc lv st := by rw [e]; exact k
theorem obM_b : obM E σ M q n e0 (eb E + q) = some e0 := if_pos rfl
theorem obM_start (h : M (eb E + q) = some e0) : ∀ a e, obM E σ M q 1 e0 a = some e → M a = some e := fun a e ha => by
  unfold obM at ha
  by_cases h1 : a = eb E + q
  · rw [if_pos h1] at ha
    rw [h1, h]; exact ha
  · rw [if_neg h1, if_neg (by omega)] at ha
    exact ha
theorem ob_get (hn : 1 ≤ n) : blM E (updM (obM E σ M q n e0) (eb E + (q + n)) x) (q + n) len (eb E + q) = some e0 := by
  unfold blM
  rw [if_neg (by omega), updM_ne (by omega)]
  exact obM_b
theorem ob_get1 (hn : 1 ≤ n) : updM (obM E σ M q n e0) (eb E + (q + n)) x (eb E + q) = some e0 := by
  rw [updM_ne (by omega)]
  exact obM_b
theorem JW.ob (h : JW F E Q c0 s0 (eb E + (q + n')) (obM E sg0 M q n' e1) pc lv st) (hn : 1 ≤ n ∧ 1 ≤ len) (hl : n' = n + len) (hz : z = eb E + (q + n')) : JW F E Q c0 s0 z (updM (blM E (updM (obM E sg0 M q n e0) (eb E + (q + n)) x) (q + n) len) (eb E + q) e1) pc lv st := by
  rw [hz]
  refine JW.mono h (fun a e ha => ?_)
  unfold obM at ha
  by_cases h1 : a = eb E + q
  · rw [if_pos h1] at ha
    rw [h1, updM_self]; exact ha
  · rw [if_neg h1] at ha
    rw [updM_ne h1]
    unfold blM
    by_cases h2 : eb E + (q + n) ≤ a ∧ a < eb E + (q + n) + len
    · rw [if_pos h2]
      rw [if_pos (by omega)] at ha
      exact ha
    · rw [if_neg h2]
      by_cases h3 : a = eb E + (q + n)
      · exfalso
        omega
      · rw [updM_ne h3]
        unfold obM
        rw [if_neg h1]
        by_cases h4 : eb E + q < a ∧ a < eb E + (q + n)
        · rw [if_pos h4]
          rw [if_pos (by omega)] at ha
          exact ha
        · rw [if_neg h4]
          rw [if_neg (by omega)] at ha
          exact ha
theorem JW.ob1 (h : JW F E Q c0 s0 (eb E + (q + n')) (obM E σ M q n' e1) pc lv st) (hn : 1 ≤ n) (hl : n' = n + 1) (hz : z = eb E + (q + n')) (hx : x = clE E σ (q + n)) : JW F E Q c0 s0 z (updM (updM (obM E σ M q n e0) (eb E + (q + n)) x) (eb E + q) e1) pc lv st := by
  rw [hz]
  refine JW.mono h (fun a e ha => ?_)
  unfold obM at ha
  by_cases h1 : a = eb E + q
  · rw [if_pos h1] at ha
    rw [h1, updM_self]; exact ha
  · rw [if_neg h1] at ha
    rw [updM_ne h1]
    by_cases h3 : a = eb E + (q + n)
    · rw [if_pos (by omega)] at ha
      rw [h3, updM_self, hx, ← ha, h3, show eb E + (q + n) - eb E = q + n by omega]
    · rw [updM_ne h3]
      unfold obM
      rw [if_neg h1]
      by_cases h4 : eb E + q < a ∧ a < eb E + (q + n)
      · rw [if_pos h4]
        rw [if_pos (by omega)] at ha
        exact ha
      · rw [if_neg h4]
        rw [if_neg (by omega)] at ha
        exact ha
theorem obM_end (hn : 1 ≤ n) (he : e0 = clE E sg0 q) : ∀ a e, blM E M q n a = some e → obM E sg0 M q n e0 a = some e := fun a e ha => by
  unfold blM at ha
  unfold obM
  by_cases h1 : a = eb E + q
  · rw [if_pos (by omega), h1, show eb E + q - eb E = q by omega] at ha
    rw [if_pos h1, he]; exact ha
  · rw [if_neg h1]
    by_cases h4 : eb E + q < a ∧ a < eb E + (q + n)
    · rw [if_pos h4]
      rw [if_pos (by omega)] at ha
      exact ha
    · rw [if_neg h4]
      rw [if_neg (by omega)] at ha
      exact ha
end OB
abbrev rm_X3i : Room := { frames := 1, cells := 1, slots := 5, locals := 26 }
theorem ct_X3i {l : Launch} {E : ET} {q : Nat} {M : Nat → Option va_E} (k0 : kdO q = 10) (k1 : kdO (q + 1) = 11) (hq : 3 ≤ q ∧ q + 2 ≤ 279) (hM : M (eb E + q) = some (.inr (3, [.null]))) : MetW l E yX3_init cX3_init 1 rm_X3i [.ref (eb E + q)] (eb E + q + 1) M (eb E + q + 1 + 1) (blM E M q 2) 1 5 (fun a => eb E ≤ a + 1) := by
  refine MetWJ (by decide +kernel) (Nat.le_of_ble_eq_true rfl) lo_A (fun a h => h) rfl ?_
  intro F hl C hA hmc hms hin
  subst hl
  have hAe : ∀ a, eb E ≤ a + 1 → fA F a := fun a h => by rw [hA]; exact h
  show JW F E _ 0 0 (eb E + q + 1) M 0 [(0, .ref (eb E + q))] []
  refine K_aload_n C dX3_init_0 rfl 0 rfl ?_
  refine K_objInit C wo_X3 wo_i wo_c (by decide) (Nat.le_of_ble_eq_true rfl) dX3_init_1 ?_
  refine K_aload_n C dX3_init_4 rfl 0 rfl ?_
  refine K_getsN C (v := .ref (ea E 8)) (fun K => K.2.1.2.2.1.1) (fun K => K.2.2.1.2.2.2.1) dX3_init_5 ?_
  refine K_tlen C (k := 8) (fun K => K.2.1.2.2.1.2) dX3_init_8 ?_
  refine K_newI C (N := 5) rfl (by decide) wa_int (by decide) dX3_init_9 ?_
  refine K_putF C (k := 0) ((updM_ne (by omega)).trans hM) (hAe _ (by omega)) rfl wl_X3 tyX3 tyX3_ok nmX3 (by decide) wf_X3_13 rfl hin rfl rfl rfl rfl (Nat.le_of_ble_eq_true rfl) dX3_init_11 ?_
  refine K_getsN C (v := .ref (ea E 8)) (fun K => K.2.1.2.2.1.1) (fun K => K.2.2.1.2.2.2.1) dX3_init_14 ?_
  refine K_iconst C dX3_init_17 ?_
  refine K_aload_n C dX3_init_18 rfl 0 rfl ?_
  refine K_get C (updM_self _ _ _) rfl wl_X3 0 (by decide) wf_X3_13 rfl dX3_init_19 ?_
  refine K_iconst C dX3_init_22 ?_
  refine K_aload_n C dX3_init_23 rfl 0 rfl ?_
  refine K_get C (updM_self _ _ _) rfl wl_X3 0 (by decide) wf_X3_13 rfl dX3_init_24 ?_
  refine K_alen C 0 rfl ((updM_ne (by omega)).trans (updM_self _ _ _)) dX3_init_27 ?_
  refine K_copy C (a0 := ea E 8) (a1 := eb E + q + 1) (n0 := 5) (n1 := 5) (n := 5) (t1 := 0) (c1 := ecI E) (ty := .int) (f := fun j => jI (tabE 8 j)) (g := fun _ => 0) (g' := fun j : Nat => jI (gI sg0 (q + 1) (j : Int))) (fun H locs _ hS => srcK_T (C.kn.2.1.2.2.1.2.narrow C.lo) hS) rfl rfl ((updM_ne (by omega)).trans (updM_self _ _ _)) (hAe _ (by omega)) (by decide) (by decide) (by decide) (fun i _ => rfl) (fun j hj => ?_) wm_X3_18 wna_copy wst_copy win_System (by decide) (Nat.le_of_ble_eq_true rfl) dX3_init_28 ?_
  · rw [if_pos hj]
    have e1 : gI sg0 (q + 1) (j : Int) = tabE 8 ((j : Int).toNat) := by
      show (if q + 1 < 279 ∧ kdO (q + 1) = 11 then _ else _) = _
      rw [if_pos ⟨by omega, k1⟩]
    show jI (gI sg0 (q + 1) (j : Int)) = jI (tabE 8 j)
    rw [e1, Int.toNat_natCast]
  · refine K_ret C (by rw [hmc]; decide) (by rw [hms]; decide) (fun a e ha => ?_) dX3_init_31
    unfold blM at ha
    by_cases h1 : a = eb E + q + 1
    · rw [if_pos (by omega)] at ha
      rw [h1, updM_self, ← ha, h1, show eb E + q + 1 - eb E = q + 1 by omega, clE_k E sg0 k1]
      rfl
    · rw [updM_ne h1]
      by_cases h2 : a = eb E + q
      · rw [if_pos (by omega)] at ha
        rw [h2, updM_self, ← ha, h2, show eb E + q - eb E = q by omega, clE_k E sg0 k0]
        rw [show clK E sg0 q 10 = (Sum.inr (3, [Value.ref (adE E (q + 1))]) : va_E) from rfl, adE_lo E (by omega)]
        rfl
      · rw [updM_ne h2, updM_ne h1]
        rw [if_neg (by omega)] at ha
        exact ha
abbrev rm_X5i : Room := { frames := 3, cells := 26, slots := 155, locals := 63 }
set_option maxHeartbeats 4000000 in
theorem ct_X5i {l : Launch} {E : ET} {q : Nat} {M : Nat → Option va_E} (k : ∀ r, r < 27 → kdO (q + r) = kbO r) (hq : 3 ≤ q ∧ q + 27 ≤ 279) (hM : M (eb E + q) = some (.inr (5, [.null, .null, .null, .null]))) : MetW l E yX5_init cX5_init 2 rm_X5i [.ref (eb E + q), .ref (eb E + 1)] (eb E + q + 1) M (eb E + (q + 27)) (blM E M q 27) 26 155 (fun a => eb E ≤ a + 1) := by
  refine MetWJ (by decide +kernel) (Nat.le_of_ble_eq_true rfl) lo_A (fun a h => h) rfl ?_
  intro F hl C hA hmc hms hin
  subst hl
  have hAe : ∀ a, eb E ≤ a + 1 → fA F a := fun a h => by rw [hA]; exact h
  show JW F E _ 0 0 (eb E + q + 1) M 0 [(0, .ref (eb E + q)), (1, .ref (eb E + 1))] []
  refine JW.mono (M' := obM E sg0 M q 1 (.inr (5, [.null, .null, .null, .null]))) ?_ (obM_start hM)
  refine K_aload_n C dX5_init_0 rfl 0 rfl ?_
  refine K_objInit C wo_X5 wo_i wo_c (by decide) (Nat.le_of_ble_eq_true rfl) dX5_init_1 ?_
  refine K_aload_n C dX5_init_4 rfl 0 rfl ?_
  refine JW.at (z' := eb E + (q + 1)) (by omega) ?_
  refine K_new C wl_X0 tyX0 tyX0_ok wn_X5_9 wi_X0 wz_X0 (ci := 0) rfl (fs := [.null, .null, .int 0]) (by decide) (by decide) dX5_init_5 ?_
  refine K_dup C dX5_init_8 rfl ?_
  refine K_callN C hAe (ct_X0i (q := q + 1) ((k 1 (by omega)).trans (by decide)) ((k 2 (by omega)).trans (by decide)) ((k 3 (by omega)).trans (by decide)) (by omega) (updM_self _ _ _)) ck_X0i (fun K => K.2.2.1.2.2.2.2.2.2.1) wim_X0 rfl ⟨rfl, rfl⟩ (by decide) (by decide) (As := []) (rest := [.ref (eb E + (q + 1)), .ref (eb E + q)]) rfl rfl (Nat.le_of_ble_eq_true rfl) dX5_init_9 ?_
  refine K_putF C (k := 0) (a := eb E + q) (ci := 5) (fs := [.null, .null, .null, .null]) (ob_get (n := 1) (by omega)) (hAe _ (by omega)) rfl wl_X5 tyX5 tyX5_ok nmX5 (by decide) wf_X5_12 rfl hin rfl rfl rfl rfl (Nat.le_of_ble_eq_true rfl) dX5_init_12 ?_
  refine JW.ob (n := 1) (len := 3) (n' := 4) (e1 := .inr (5, [.ref (eb E + (q + 1)), .null, .null, .null])) ?_ (by omega) rfl (by omega)
  refine K_aload_n C dX5_init_15 rfl 0 rfl ?_
  refine K_new C wl_X4 tyX4 tyX4_ok wn_X5_18 wi_X4 wz_X4 (ci := 4) rfl (fs := [.null, .int 0]) (by decide) (by decide) dX5_init_16 ?_
  refine K_dup C dX5_init_19 rfl ?_
  refine K_callN C hAe (ct_X4i (q := q + 4) ((k 4 (by omega)).trans (by decide)) ((k 5 (by omega)).trans (by decide)) (by omega) (updM_self _ _ _)) ck_X4i (fun K => K.2.2.1.2.2.2.2.2.2.2.1) wim_X4 rfl ⟨rfl, rfl⟩ (by decide) (by decide) (As := []) (rest := [.ref (eb E + (q + 4)), .ref (eb E + q)]) rfl rfl (Nat.le_of_ble_eq_true rfl) dX5_init_20 ?_
  refine K_putF C (k := 1) (a := eb E + q) (ci := 5) (fs := [.ref (eb E + (q + 1)), .null, .null, .null]) (ob_get (n := 4) (by omega)) (hAe _ (by omega)) rfl wl_X5 tyX5 tyX5_ok nmX5 (by decide) wf_X5_21 rfl hin rfl rfl rfl rfl (Nat.le_of_ble_eq_true rfl) dX5_init_23 ?_
  refine JW.ob (n := 4) (len := 2) (n' := 6) (e1 := .inr (5, [.ref (eb E + (q + 1)), .ref (eb E + (q + 4)), .null, .null])) ?_ (by omega) rfl (by omega)
  refine K_aload_n C dX5_init_26 rfl 0 rfl ?_
  refine K_new C wl_X3 tyX3 tyX3_ok wn_X5_25 wi_X3 wz_X3 (ci := 3) rfl (fs := [.null]) (by decide) (by decide) dX5_init_27 ?_
  refine K_dup C dX5_init_30 rfl ?_
  refine K_call C hAe (ct_X3i (q := q + 6) ((k 6 (by omega)).trans (by decide)) ((k 7 (by omega)).trans (by decide)) (by omega) (updM_self _ _ _)) ck_X3i wm_X5_27i wim_X3 rfl ⟨rfl, rfl⟩ (by decide) (by decide) (As := []) (rest := [.ref (eb E + (q + 6)), .ref (eb E + q)]) rfl rfl (Nat.le_of_ble_eq_true rfl) dX5_init_31 ?_
  refine K_putF C (k := 2) (a := eb E + q) (ci := 5) (fs := [.ref (eb E + (q + 1)), .ref (eb E + (q + 4)), .null, .null]) (ob_get (n := 6) (by omega)) (hAe _ (by omega)) rfl wl_X5 tyX5 tyX5_ok nmX5 (by decide) wf_X5_28 rfl hin rfl rfl rfl rfl (Nat.le_of_ble_eq_true rfl) dX5_init_34 ?_
  refine JW.ob (n := 6) (len := 2) (n' := 8) (e1 := .inr (5, [.ref (eb E + (q + 1)), .ref (eb E + (q + 4)), .ref (eb E + (q + 6)), .null])) ?_ (by omega) rfl (by omega)
  refine K_aload_n C dX5_init_37 rfl 0 rfl ?_
  refine K_new C wl_X7 tyX7 tyX7_ok wn_X5_32 wi_X7 wz_X7 (ci := 7) rfl (fs := [.null, .null, .int 0]) (by decide) (by decide) dX5_init_38 ?_
  refine K_dup C dX5_init_41 rfl ?_
  refine K_aload_n C dX5_init_42 rfl 1 rfl ?_
  have k14 : ∀ j, j < 17 → kdO (q + 8 + 2 + j) = 14 := fun j hj => by
    have e1 : q + 8 + 2 + j = q + (10 + j) := by omega
    rw [e1, k (10 + j) (by omega)]
    unfold kbO
    rw [if_neg (by omega), if_neg (by omega), if_neg (by omega), if_neg (by omega), if_neg (by omega), if_neg (by omega), if_neg (by omega), if_neg (by omega), if_neg (by omega), if_neg (by omega)]
  refine K_call C hAe (ct_X7i (q := q + 8) ((k 8 (by omega)).trans (by decide)) ((k 9 (by omega)).trans (by decide)) k14 (by omega) (updM_self _ _ _)) ck_X7i wm_X5_34i wim_X7 rfl ⟨rfl, rfl⟩ (by decide) (by decide) (As := [.ref (eb E + 1)]) (rest := [.ref (eb E + (q + 8)), .ref (eb E + q)]) rfl rfl (Nat.le_of_ble_eq_true rfl) dX5_init_43 ?_
  refine K_putF C (k := 3) (a := eb E + q) (ci := 5) (fs := [.ref (eb E + (q + 1)), .ref (eb E + (q + 4)), .ref (eb E + (q + 6)), .null]) (ob_get (n := 8) (by omega)) (hAe _ (by omega)) rfl wl_X5 tyX5 tyX5_ok nmX5 (by decide) wf_X5_37 rfl hin rfl rfl rfl rfl (Nat.le_of_ble_eq_true rfl) dX5_init_46 ?_
  refine JW.ob (n := 8) (len := 19) (n' := 27) (e1 := .inr (5, [.ref (eb E + (q + 1)), .ref (eb E + (q + 4)), .ref (eb E + (q + 6)), .ref (eb E + (q + 8))])) ?_ (by omega) rfl (by omega)
  refine K_ret C (by rw [hmc]; decide) (by rw [hms]; decide) (obM_end (by omega) ?_) dX5_init_49
  rw [clE_k E sg0 (q := q) (k := 5) ((k 0 (by omega)).trans (by decide))]
  rw [show clK E sg0 q 5 = (Sum.inr (5, [Value.ref (adE E (q + 1)), Value.ref (adE E (q + 4)), Value.ref (adE E (q + 6)), Value.ref (adE E (q + 8))]) : va_E) from rfl, adE_lo E (by omega), adE_lo E (by omega), adE_lo E (by omega), adE_lo E (by omega)]
