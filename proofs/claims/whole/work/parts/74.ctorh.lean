/-! constructors: History, the class -/
abbrev rm_X1i : Room := { frames := 4, cells := 217, slots := 1280, locals := 84 }
/-- k states are made -/
def hiF (E : ET) (k : Nat) : Nat → Option Nat := fun j => if j < k ∨ (8 ≤ j ∧ 0 < k) then some (adE E (63 + 27 * j)) else none
def hiM (E : ET) (M : Nat → Option va_E) (q k : Nat) : Nat → Option va_E := fun a =>
  if a = eb E + q then some (.inr (1, [.ref (eb E + (q + 1)), .int 0, .int 0]))
  else if a = eb E + (q + 1) then some (.inl (ecT E, 8, .inr (.inr (.inr (.inr (hiF E k))))))
  else if eb E + (q + 1) < a ∧ a < eb E + (q + 2 + 27 * k) then some (clE E sg0 (a - eb E)) else M a
theorem hiM_b {E : ET} {M : Nat → Option va_E} {q k : Nat} : hiM E M q k (eb E + q) = some (.inr (1, [.ref (eb E + (q + 1)), .int 0, .int 0])) := if_pos rfl
theorem hiM_r {E : ET} {M : Nat → Option va_E} {q k : Nat} : hiM E M q k (eb E + (q + 1)) = some (.inl (ecT E, 8, .inr (.inr (.inr (.inr (hiF E k)))))) := by
  unfold hiM
  rw [if_neg (by omega), if_pos rfl]
set_option maxHeartbeats 4000000 in
theorem ct_X1i {l : Launch} {E : ET} {q : Nat} {M : Nat → Option va_E} (hq : q = 61) (hM : M (eb E + q) = some (.inr (1, [.null, .int 0, .int 0]))) : MetW l E yX1_init cX1_init 3 rm_X1i [.ref (eb E + q), .ref (eb E + 2)] (eb E + q + 1) M (eb E + (q + 218)) (blM E M q 218) 217 1280 (fun a => eb E ≤ a + 1) := by
  have kq : kdO q = 16 := by subst hq; exact kc61
  have kq1 : kdO (q + 1) = 17 := by subst hq; exact kc62
  have k5 : ∀ k, k < 8 → ∀ r, r < 27 → kdO (q + 2 + 27 * k + r) = kbO r := fun k hk r hr => kdO_blk (Or.inl ⟨k, hk, by omega⟩) hr
  refine MetWJ (by decide +kernel) (Nat.le_of_ble_eq_true rfl) lo_A (fun a h => h) rfl ?_
  intro F hl C hA hmc hms hin
  subst hl
  have hAe : ∀ a, eb E ≤ a + 1 → fA F a := fun a h => by rw [hA]; exact h
  show JW F E _ 0 0 (eb E + q + 1) M 0 [(0, .ref (eb E + q)), (1, .ref (eb E + 2))] []
  refine K_aload_n C dX1_init_0 rfl 0 rfl ?_
  refine K_objInit C wo_X1 wo_i wo_c (by decide) (Nat.le_of_ble_eq_true rfl) dX1_init_1 ?_
  refine K_aload_n C dX1_init_4 rfl 0 rfl ?_
  refine K_bipush C dX1_init_5 (by decide) ?_
  refine JW.at (z' := eb E + (q + 1)) (by omega) ?_
  refine K_newS C (N := 8) 3 rfl C.kn.2.2.1.2.2.2.2.2.2.2.2.2 wn_X1_9 rfl (by decide) (by decide) dX1_init_7 ?_
  refine K_putF C (k := 0) ((updM_ne (by omega)).trans hM) (hAe _ (by omega)) rfl wl_X1 tyX1 tyX1_ok nmX1 (by decide) wf_X1_11 rfl hin rfl rfl rfl rfl (Nat.le_of_ble_eq_true rfl) dX1_init_10 ?_
  refine K_iconst C dX1_init_13 ?_
  refine K_istore_n C dX1_init_14 rfl (by decide) rfl ?_
  have loop : ∀ d k : Nat, k + d = 8 → JW F E (MQ (fb F) (Qcw E (fA F) (eb E + (q + 218)) (blM E M q 218)) (fa F) (fs F) (fmc F) (fms F) (fA F)) (1 + 27 * k) (8 + 159 * k) (eb E + (q + 2 + 27 * k)) (hiM E M q k) 15 [(2, .int (jI (k : Int))), (0, .ref (eb E + q)), (1, .ref (eb E + 2))] [] := by
    intro d
    induction d with
    | zero =>
      intro k hk
      have ek : k = 8 := by omega
      subst ek
      refine JW.at (z' := eb E + (q + 218)) (by omega) ?_
      refine K_iload_n C dX1_init_15 rfl 0 rfl ?_
      refine K_aload_n C dX1_init_16 rfl 1 rfl ?_
      refine K_get C hiM_b rfl wl_X1 0 (by decide) wf_X1_11 rfl dX1_init_17 ?_
      refine K_alen C 3 rfl hiM_r dX1_init_20 ?_
      refine K_icmp_ge C ⟨by decide, by decide⟩ ⟨by decide, by decide⟩ (tgt := 44) dX1_init_21 (by decide) (fun _ => ?_) (fun z => absurd (by decide) z)
      refine K_ret C (by rw [hmc]; decide) (by rw [hms]; decide) (fun a e ha => ?_) dX1_init_44
      unfold blM at ha
      unfold hiM
      by_cases h1 : a = eb E + q
      · rw [if_pos (by omega)] at ha
        rw [if_pos h1, ← ha, h1, show eb E + q - eb E = q by omega, clE_k E sg0 kq]
        rw [show clK E sg0 q 16 = (Sum.inr (1, [Value.ref (adE E 62), Value.int (jI (gI sg0 q 1)), Value.int (jI (gI sg0 q 2))]) : va_E) from rfl, adE_lo E (by omega), sg0_0 (by omega) (by omega), sg0_0 (by omega) (by omega), hq]
        rfl
      · rw [if_neg h1]
        by_cases h2 : a = eb E + (q + 1)
        · rw [if_pos (by omega)] at ha
          rw [if_pos h2, ← ha, h2, show eb E + (q + 1) - eb E = q + 1 by omega, clE_k E sg0 kq1]
          have ef : hiF E 8 = fun j => some (adE E (63 + 27 * j)) := funext (fun j => if_pos (by omega))
          rw [ef]
          rfl
        · rw [if_neg h2]
          by_cases h3 : eb E + (q + 1) < a ∧ a < eb E + (q + 2 + 27 * 8)
          · rw [if_pos h3]
            rw [if_pos (by omega)] at ha
            exact ha
          · rw [if_neg h3]
            rw [if_neg (by omega)] at ha
            exact ha
    | succ d ih =>
      intro k hk
      have rk : rgI (k : Int) := ⟨by omega, by omega⟩
      refine K_iload_n C dX1_init_15 rfl 0 rfl ?_
      refine K_aload_n C dX1_init_16 rfl 1 rfl ?_
      refine K_get C hiM_b rfl wl_X1 0 (by decide) wf_X1_11 rfl dX1_init_17 ?_
      refine K_alen C 3 rfl hiM_r dX1_init_20 ?_
      refine K_icmp_ge C rk ⟨by decide, by decide⟩ (tgt := 44) dX1_init_21 (by decide) (fun z => absurd z (by omega)) (fun _ => ?_)
      refine K_aload_n C dX1_init_24 rfl 1 rfl ?_
      refine K_get C hiM_b rfl wl_X1 0 (by decide) wf_X1_11 rfl dX1_init_25 ?_
      refine K_iload_n C dX1_init_28 rfl 0 rfl ?_
      refine K_new C wl_X5 tyX5 tyX5_ok wn_X1_9 wi_X5 wz_X5 (ci := 5) rfl (fs := [.null, .null, .null, .null]) (by decide) ⟨by show 1 + 27 * k + 1 ≤ 217; omega, by show 8 + 159 * k + 4 ≤ 1280; omega⟩ dX1_init_29 ?_
      refine K_dup C dX1_init_32 rfl ?_
      refine K_aload_n C dX1_init_33 rfl 2 rfl ?_
      refine K_call C hAe (ct_X5i (q := q + 2 + 27 * k) (k5 k (by omega)) (by omega) (updM_self _ _ _)) ck_X5i wm_X1_17i wim_X5 rfl ⟨rfl, rfl⟩ (by decide) ⟨by show 1 + 27 * k + 1 + 26 ≤ 217; omega, by show 8 + 159 * k + 4 + 155 ≤ 1280; omega⟩ (As := [.ref (eb E + 2)]) (rest := [.ref (eb E + (q + 2 + 27 * k)), .int (jI (k : Int)), .ref (eb E + (q + 1))]) rfl rfl (Nat.le_of_ble_eq_true rfl) dX1_init_34 ?_
      refine K_aast C (a := eb E + (q + 1)) (v := eb E + (q + 2 + 27 * k)) (n := 8) (cA := ecT E) (ci := 5) (vs := [Value.ref (adE E (q + 2 + 27 * k + 1)), Value.ref (adE E (q + 2 + 27 * k + 4)), Value.ref (adE E (q + 2 + 27 * k + 6)), Value.ref (adE E (q + 2 + 27 * k + 8))]) (f := hiF E k) (f' := hiF E (k + 1)) 3 rfl ?_ ?_ rfl (hAe _ (by omega)) (by decide) (by omega) (by omega) (fun j hj => ?_) dX1_init_37 ?_
      · unfold blM
        rw [if_neg (by omega), updM_ne (by omega)]
        exact hiM_r
      · unfold blM
        rw [if_pos (by omega), show eb E + (q + 2 + 27 * k) - eb E = q + 2 + 27 * k by omega, clE_k E sg0 (q := q + 2 + 27 * k) (k := 5) ((k5 k (by omega) 0 (by omega)).trans (by decide))]
        rfl
      · unfold hiF
        by_cases e1 : j = k
        · rw [if_pos (by omega), if_pos (by omega), adE_lo E (by omega)]
          congr 1
          omega
        · rw [if_neg (by omega : ¬ j = ((k : Int)).toNat)]
          by_cases e2 : j < k
          · rw [if_pos (by omega), if_pos (by omega)]
          · rw [if_neg (by omega), if_neg (by omega)]
      · refine K_iinc C dX1_init_38 0 rfl (by decide) rfl ?_
        refine K_goto C (tgt := 15) dX1_init_41 (by decide) ?_
        have g := ih (k + 1) (by omega)
        rw [show 1 + 27 * (k + 1) = 1 + 27 * k + 1 + 26 by omega, show 8 + 159 * (k + 1) = 8 + 159 * k + 4 + 155 by omega, show q + 2 + 27 * (k + 1) = q + 2 + 27 * k + 27 by omega, show ((k + 1 : Nat) : Int) = (k : Int) + 1 by omega] at g
        refine JW.mono g (fun a e ha => ?_)
        unfold hiM at ha
        by_cases h2 : a = eb E + (q + 1)
        · rw [if_neg (by omega), if_pos h2] at ha
          rw [h2, updM_self]
          exact ha
        · rw [updM_ne h2]
          unfold blM
          by_cases h3 : eb E + (q + 2 + 27 * k) ≤ a ∧ a < eb E + (q + 2 + 27 * k) + 27
          · rw [if_neg (by omega), if_neg h2, if_pos (by omega)] at ha
            rw [if_pos h3]
            exact ha
          · rw [if_neg h3, updM_ne (by omega)]
            unfold hiM
            by_cases h1 : a = eb E + q
            · rw [if_pos h1] at ha ⊢
              exact ha
            · rw [if_neg h1, if_neg h2] at ha ⊢
              by_cases h4 : eb E + (q + 1) < a ∧ a < eb E + (q + 2 + 27 * k)
              · rw [if_pos h4]
                rw [if_pos (by omega)] at ha
                exact ha
              · rw [if_neg h4]
                rw [if_neg (by omega)] at ha
                exact ha
  have g := loop 8 0 rfl
  refine JW.at (z' := eb E + (q + 2 + 27 * 0)) (by omega) (JW.mono g (fun a e ha => ?_))
  unfold hiM at ha
  by_cases h1 : a = eb E + q
  · rw [if_pos h1] at ha
    rw [h1, updM_self]
    exact ha
  · rw [updM_ne h1]
    by_cases h2 : a = eb E + (q + 1)
    · rw [if_neg h1, if_pos h2] at ha
      rw [h2, updM_self, ← ha]
      have ef : hiF E 0 = fun _ => none := funext (fun j => if_neg (by omega))
      rw [ef]
    · rw [if_neg h1, if_neg h2, if_neg (by omega)] at ha
      rw [updM_ne h2]
      exact ha
abbrev rm_X9i : Room := { frames := 5, cells := 278, slots := 1708, locals := 106 }
set_option maxHeartbeats 4000000 in
theorem ct_X9i {l : Launch} {E : ET} {q : Nat} {M : Nat → Option va_E} (hq : q = 0) (hM : M (eb E + q) = some (.inr (9, [.null, .int 0, .null, .null, .null]))) : MetW l E yX9_init cX9_init 2 rm_X9i [.ref (eb E + q)] (eb E + q + 1) M (eb E + (q + 279)) (blM E M q 279) 278 1708 (fun a => eb E ≤ a + 1) := by
  have kq : kdO q = 1 := by subst hq; exact kc0
  have kq1 : kdO (q + 1) = 2 := by subst hq; exact kc1
  have kq2 : kdO (q + 2) = 3 := by subst hq; decide
  have kq3 : kdO (q + 3) = 4 := by subst hq; decide
  refine MetWJ (by decide +kernel) (Nat.le_of_ble_eq_true rfl) lo_A (fun a h => h) rfl ?_
  intro F hl C hA hmc hms hin
  subst hl
  have hAe : ∀ a, eb E ≤ a + 1 → fA F a := fun a h => by rw [hA]; exact h
  show JW F E _ 0 0 (eb E + q + 1) M 0 [(0, .ref (eb E + q))] []
  refine JW.mono (M' := obM E sg0 M q 1 (.inr (9, [.null, .int 0, .null, .null, .null]))) ?_ (obM_start hM)
  refine K_aload_n C dX9_init_0 rfl 0 rfl ?_
  refine K_objInit C wo_X9 wo_i wo_c (by decide) (Nat.le_of_ble_eq_true rfl) dX9_init_1 ?_
  refine K_aload_n C dX9_init_4 rfl 0 rfl ?_
  refine K_bipush C dX9_init_5 (by decide) ?_
  refine JW.at (z' := eb E + (q + 1)) (by omega) ?_
  refine K_newB C (N := 40) rfl (by decide) wa_byte (by decide) dX9_init_7 ?_
  refine K_putF C (k := 0) (a := eb E + q) (ci := 9) (fs := [.null, .int 0, .null, .null, .null]) (ob_get1 (n := 1) (by omega)) (hAe _ (by omega)) rfl wl_X9 tyX9 tyX9_ok nmX9 (by decide) wf_X9_9 rfl hin rfl rfl rfl rfl (Nat.le_of_ble_eq_true rfl) dX9_init_9 ?_
  have ex1 : (Sum.inl (ecB E, 40, Sum.inl (fun _ => 0)) : va_E) = clE E sg0 (q + 1) := by
    rw [clE_k E sg0 kq1]
    have e : (fun j : Nat => jI (gI sg0 (q + 1) (j : Int))) = fun _ => 0 := funext (fun j => by rw [sg0_0 (by omega) (by omega)]; rfl)
    rw [← e]
    rfl
  refine JW.ob1 (n := 1) (n' := 2) (e1 := .inr (9, [.ref (eb E + (q + 1)), .int 0, .null, .null, .null])) ?_ (by omega) rfl (by omega) ex1
  refine K_new C wl_X2 tyX2 tyX2_ok wn_X9_13 wi_X2 wz_X2 (ci := 2) rfl (fs := [.int 0, .null]) (by decide) (by decide) dX9_init_12 ?_
  refine K_dup C dX9_init_15 rfl ?_
  refine K_iconst C dX9_init_16 ?_
  refine K_aload_n C dX9_init_17 rfl 0 rfl ?_
  refine K_get C (ob_get1 (n := 2) (by omega)) rfl wl_X9 0 (by decide) wf_X9_9 rfl dX9_init_18 ?_
  refine K_iconst C dX9_init_21 ?_
  have hty : updM (obM E sg0 M q 2 (.inr (9, [.ref (eb E + (q + 1)), .int 0, .null, .null, .null]))) (eb E + (q + 2)) (.inr (2, [.int 0, .null])) (eb E + (q + 1)) = some (.inl (ecB E, 40, .inl (fun _ => 0))) := by
    rw [updM_ne (by omega)]
    unfold obM
    rw [if_neg (by omega), if_pos (by omega), ex1, show eb E + (q + 1) - eb E = q + 1 by omega]
  refine K_call C (fun a h => ?_) (ct_X2i (b := eb E + (q + 2)) (z := eb E + (q + 2) + 1) (a0 := eb E + (q + 1)) (x := 0) (n := 0) (g := fun _ => 0) (g' := fun _ => 0) rgI_0 rgI_0 (by omega) (by omega) (by omega) (updM_self _ _ _) hty (fun i hi => rfl) (fun j _ => rfl)) ck_X2i wm_X9_15i wim_X2 rfl ⟨rfl, rfl⟩ (by decide) (by decide) (As := [.int (jI 0), .ref (eb E + (q + 1)), .int (jI 0)]) (rest := [.ref (eb E + (q + 2))]) rfl rfl (Nat.le_of_ble_eq_true rfl) dX9_init_22 ?_
  · rcases h with h | h | h
    · exact hAe _ (lo_A a h)
    · exact hAe _ (by omega)
    · exact hAe _ (by omega)
  refine JW.at (z' := eb E + (q + 4)) (by omega) (JW.mono (M' := obM E sg0 M q 4 (.inr (9, [.ref (eb E + (q + 1)), .int 0, .null, .null, .null]))) ?_ (fun a e ha => ?_))
  · rw [show eb E + (q + 2) = eb E + 2 by omega]
    refine K_astore_n C dX9_init_25 rfl (by decide) rfl ?_
    refine K_aload_n C dX9_init_26 rfl 1 rfl ?_
    refine K_new C wl_X5 tyX5 tyX5_ok wn_X9_18 wi_X5 wz_X5 (ci := 5) rfl (fs := [.null, .null, .null, .null]) (by decide) (by decide) dX9_init_27 ?_
    refine K_dup C dX9_init_30 rfl ?_
    refine K_aload_n C dX9_init_31 rfl 0 rfl ?_
    have k5 : ∀ r, r < 27 → kdO (q + 4 + r) = kbO r := fun r hr => kdO_blk (Or.inr (Or.inl (by omega))) hr
    refine K_call C hAe (ct_X5i (q := q + 4) k5 (by omega) (updM_self _ _ _)) ck_X5i wm_X9_20i wim_X5 rfl ⟨rfl, rfl⟩ (by decide) (by decide) (As := [.ref (eb E + 2)]) (rest := [.ref (eb E + (q + 4)), .ref (eb E + q)]) rfl rfl (Nat.le_of_ble_eq_true rfl) dX9_init_32 ?_
    refine K_putF C (k := 2) (a := eb E + q) (ci := 9) (fs := [.ref (eb E + (q + 1)), .int 0, .null, .null, .null]) (ob_get (n := 4) (by omega)) (hAe _ (by omega)) rfl wl_X9 tyX9 tyX9_ok nmX9 (by decide) wf_X9_23 rfl hin rfl rfl rfl rfl (Nat.le_of_ble_eq_true rfl) dX9_init_35 ?_
    refine JW.ob (n := 4) (len := 27) (n' := 31) (e1 := .inr (9, [.ref (eb E + (q + 1)), .int 0, .ref (eb E + (q + 4)), .null, .null])) ?_ (by omega) rfl (by omega)
    refine K_aload_n C dX9_init_38 rfl 1 rfl ?_
    refine K_new C wl_X8 tyX8 tyX8_ok wn_X9_27 wi_X8 wz_X8 (ci := 8) rfl (fs := [.null, .int 0, .null, .null, .int 0]) (by decide) (by decide) dX9_init_39 ?_
    refine K_dup C dX9_init_42 rfl ?_
    refine K_aload_n C dX9_init_43 rfl 0 rfl ?_
    refine K_call C hAe (ct_X8i (q := q + 31) (by omega) (updM_self _ _ _)) ck_X8i wm_X9_29i wim_X8 rfl ⟨rfl, rfl⟩ (by decide) (by decide) (As := [.ref (eb E + 2)]) (rest := [.ref (eb E + (q + 31)), .ref (eb E + q)]) rfl rfl (Nat.le_of_ble_eq_true rfl) dX9_init_44 ?_
    refine K_putF C (k := 3) (a := eb E + q) (ci := 9) (fs := [.ref (eb E + (q + 1)), .int 0, .ref (eb E + (q + 4)), .null, .null]) (ob_get (n := 31) (by omega)) (hAe _ (by omega)) rfl wl_X9 tyX9 tyX9_ok nmX9 (by decide) wf_X9_30 rfl hin rfl rfl rfl rfl (Nat.le_of_ble_eq_true rfl) dX9_init_47 ?_
    refine JW.ob (n := 31) (len := 30) (n' := 61) (e1 := .inr (9, [.ref (eb E + (q + 1)), .int 0, .ref (eb E + (q + 4)), .ref (eb E + (q + 31)), .null])) ?_ (by omega) rfl (by omega)
    refine K_aload_n C dX9_init_50 rfl 1 rfl ?_
    refine K_new C wl_X1 tyX1 tyX1_ok wn_X9_34 wi_X1 wz_X1 (ci := 1) rfl (fs := [.null, .int 0, .int 0]) (by decide) (by decide) dX9_init_51 ?_
    refine K_dup C dX9_init_54 rfl ?_
    refine K_aload_n C dX9_init_55 rfl 0 rfl ?_
    refine K_call C hAe (ct_X1i (q := q + 61) (by omega) (updM_self _ _ _)) ck_X1i wm_X9_36i wim_X1 rfl ⟨rfl, rfl⟩ (by decide) (by decide) (As := [.ref (eb E + 2)]) (rest := [.ref (eb E + (q + 61)), .ref (eb E + q)]) rfl rfl (Nat.le_of_ble_eq_true rfl) dX9_init_56 ?_
    refine K_putF C (k := 4) (a := eb E + q) (ci := 9) (fs := [.ref (eb E + (q + 1)), .int 0, .ref (eb E + (q + 4)), .ref (eb E + (q + 31)), .null]) (ob_get (n := 61) (by omega)) (hAe _ (by omega)) rfl wl_X9 tyX9 tyX9_ok nmX9 (by decide) wf_X9_37 rfl hin rfl rfl rfl rfl (Nat.le_of_ble_eq_true rfl) dX9_init_59 ?_
    refine JW.ob (n := 61) (len := 218) (n' := 279) (e1 := .inr (9, [.ref (eb E + (q + 1)), .int 0, .ref (eb E + (q + 4)), .ref (eb E + (q + 31)), .ref (eb E + (q + 61))])) ?_ (by omega) rfl (by omega)
    refine K_ret C (by rw [hmc]; decide) (by rw [hms]; decide) (obM_end (by omega) ?_) dX9_init_62
    rw [clE_k E sg0 kq]
    rw [show clK E sg0 q 1 = (Sum.inr (9, [Value.ref (adE E 1), Value.int (jI (gI sg0 q 1)), Value.ref (adE E 4), Value.ref (adE E 31), Value.ref (adE E 61)]) : va_E) from rfl, adE_lo E (by omega), adE_lo E (by omega), adE_lo E (by omega), adE_lo E (by omega), sg0_0 (by omega) (by omega), hq]
    rfl
  · unfold obM at ha
    unfold ptM
    by_cases h1 : a = eb E + q
    · rw [if_pos h1] at ha
      rw [updM_ne (by omega), updM_ne (by omega), updM_ne (by omega)]
      unfold obM
      rw [if_pos h1]
      exact ha
    · rw [if_neg h1] at ha
      by_cases h2 : a = eb E + (q + 2)
      · rw [if_pos (by omega)] at ha
        rw [h2, updM_self, ← ha, h2, show eb E + (q + 2) - eb E = q + 2 by omega, clE_k E sg0 kq2]
        rw [show clK E sg0 (q + 2) 3 = (Sum.inr (2, [Value.int (jI (gI sg0 (q + 2) 0)), Value.ref (adE E (q + 2 + 1))]) : va_E) from rfl, adE_lo E (by omega), sg0_0 (by omega) (by omega)]
        rfl
      · rw [updM_ne h2]
        by_cases h3 : a = eb E + (q + 2) + 1
        · rw [if_pos (by omega)] at ha
          rw [h3, updM_self, ← ha, h3, show eb E + (q + 2) + 1 - eb E = q + 3 by omega, clE_k E sg0 kq3]
          have e : (fun j : Nat => jI (gI sg0 (q + 3) (j : Int))) = fun _ => 0 := funext (fun j => by rw [sg0_0 (by omega) (by omega)]; rfl)
          rw [show clK E sg0 (q + 3) 4 = (Sum.inl (ecB E, (gL sg0 (q + 3)).toNat, Sum.inl (fun j : Nat => jI (gI sg0 (q + 3) (j : Int)))) : va_E) from rfl, e]
          rfl
        · rw [updM_ne h3, updM_ne h2]
          unfold obM
          rw [if_neg h1]
          by_cases h4 : eb E + q < a ∧ a < eb E + (q + 2)
          · rw [if_pos h4]
            rw [if_pos (by omega)] at ha
            exact ha
          · rw [if_neg h4]
            rw [if_neg (by omega)] at ha
            exact ha
