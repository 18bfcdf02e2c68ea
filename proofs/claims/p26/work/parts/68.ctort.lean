/-! constructors: Track -/
theorem JW.mono {F : FT} {E : ET} {Q : State → Prop} {c0 s0 z pc : Nat} {M M' : Nat → Option va_E} {lv : List (Nat × Value)} {st : List Value} (h : JW F E Q c0 s0 z M' pc lv st) (hm : ∀ a e, M' a = some e → M a = some e) : JW F E Q c0 s0 z M pc lv st := fun H locs ls h1 h2 h3 => h H locs ls (h1.mono hm) h2 h3
theorem wo_X7 : Cond.methodLink RX7 3 Lib.objectInit ∈ lw_gt := gt_in (List.mem_append_right _ (List.mem_of_getElem? (i := 105) (by decide +kernel))) rfl
theorem wn_X7_9 : Cond.classLink RX7 9 RX6 ∈ lw_gt := gt_in (List.mem_append_right _ (List.mem_of_getElem? (i := 106) (by decide +kernel))) rfl
theorem wi_X6 : Cond.instantiable RX6 5 ∈ lw_gt := gt_in (List.mem_append_right _ (List.mem_of_getElem? (i := 108) (by decide +kernel))) rfl
theorem wz_X6 : Cond.initialized RX6 ∈ lw_gt := gt_in (List.mem_append_right _ (List.mem_of_getElem? (i := 10) (by decide +kernel))) rfl
theorem wm_X7_17i : Cond.methodLink RX7 17 yX6_init ∈ lw_gt := gt_in (List.mem_append_right _ (List.mem_of_getElem? (i := 109) (by decide +kernel))) rfl
theorem wim_X6 : Cond.instanceMethod yX6_init ∈ lw_gt := gt_in (List.mem_append_right _ (List.mem_of_getElem? (i := 110) (by decide +kernel))) rfl
theorem ck_X6i : CkE yX6_init cX6_init 2 none 1 := ⟨gt_in (List.mem_append_right _ (List.mem_of_getElem? (i := 111) (by decide +kernel))) rfl, wz_X6, by decide +kernel⟩
theorem wfi_X7_11 : Cond.fieldLink RX7 11 RX7 "rows" "[LCutConformer$Subtitle;" ∈ lw_gt := gt_in (List.mem_append_right _ (List.mem_of_getElem? (i := 142) (by decide +kernel))) rfl
theorem wfi_X7_20 : Cond.fieldLink RX7 20 RX7 "missing" "LCutConformer$Subtitle;" ∈ lw_gt := gt_in (List.mem_append_right _ (List.mem_of_getElem? (i := 143) (by decide +kernel))) rfl
abbrev rm_X7i : Room := { frames := 2, cells := 18, slots := 101, locals := 41 }
/-- k subtitles are made -/
def trM (E : ET) (M : Nat → Option va_E) (q k : Nat) : Nat → Option va_E := fun a =>
  if a = eb E + q then some (.inr (7, [.ref (eb E + q + 1), .null, .int 0]))
  else if a = eb E + q + 1 then some (.inl (ecS E, 16, .inr (.inr (.inr (.inr (fun j => if j % 16 < k then some (eb E + q + 2 + j % 16) else none))))))
  else if eb E + q + 2 ≤ a ∧ a < eb E + q + 2 + k then some (clE E sg0 (a - eb E)) else M a
theorem trM_b {E : ET} {M : Nat → Option va_E} {q k : Nat} : trM E M q k (eb E + q) = some (.inr (7, [.ref (eb E + q + 1), .null, .int 0])) := if_pos rfl
theorem trM_r {E : ET} {M : Nat → Option va_E} {q k : Nat} : trM E M q k (eb E + q + 1) = some (.inl (ecS E, 16, .inr (.inr (.inr (.inr (fun j => if j % 16 < k then some (eb E + q + 2 + j % 16) else none)))))) := by
  unfold trM
  rw [if_neg (by omega), if_pos rfl]
theorem ct_X7i {l : Launch} {E : ET} {q : Nat} {M : Nat → Option va_E} (k0 : kdO q = 12) (k1 : kdO (q + 1) = 13) (k2 : ∀ j, j < 17 → kdO (q + 2 + j) = 14) (hq : 3 ≤ q ∧ q + 19 ≤ 279) (hM : M (eb E + q) = some (.inr (7, [.null, .null, .int 0]))) : MetW l E yX7_init cX7_init 3 rm_X7i [.ref (eb E + q), .ref (eb E + 1)] (eb E + q + 1) M (eb E + q + 19) (blM E M q 19) 18 101 (fun a => eb E ≤ a + 1) := by
  refine MetWJ (by decide +kernel) (Nat.le_of_ble_eq_true rfl) lo_A (fun a h => h) rfl ?_
  intro F hl C hA hmc hms hin
  subst hl
  have hAe : ∀ a, eb E ≤ a + 1 → fA F a := fun a h => by rw [hA]; exact h
  show JW F E _ 0 0 (eb E + q + 1) M 0 [(0, .ref (eb E + q)), (1, .ref (eb E + 1))] []
  refine K_aload_n C dX7_init_0 rfl 0 rfl ?_
  refine K_objInit C wo_X7 wo_i wo_c (by decide) (Nat.le_of_ble_eq_true rfl) dX7_init_1 ?_
  refine K_aload_n C dX7_init_4 rfl 0 rfl ?_
  refine K_bipush C dX7_init_5 (by decide) ?_
  refine K_newS C (N := 16) 2 rfl C.kn.2.2.1.2.2.2.2.2.2.2.2.1 wn_X7_9 rfl (by decide) (by decide) dX7_init_7 ?_
  refine K_putF C (k := 0) ((updM_ne (by omega)).trans hM) (hAe _ (by omega)) rfl wl_X7 tyX7 tyX7_ok nmX7 (by decide) wfi_X7_11 rfl hin rfl rfl rfl rfl (Nat.le_of_ble_eq_true rfl) dX7_init_10 ?_
  refine K_iconst C dX7_init_13 ?_
  refine K_istore_n C dX7_init_14 rfl (by decide) rfl ?_
  have loop : ∀ d k : Nat, k + d = 16 → JW F E (MQ (fb F) (Qcw E (fA F) (eb E + q + 19) (blM E M q 19)) (fa F) (fs F) (fmc F) (fms F) (fA F)) (1 + k) (16 + 5 * k) (eb E + q + 2 + k) (trM E M q k) 15 [(2, .int (jI (k : Int))), (0, .ref (eb E + q)), (1, .ref (eb E + 1))] [] := by
    intro d
    induction d with
    | zero =>
      intro k hk
      have ek : k = 16 := by omega
      subst ek
      rw [show eb E + q + 2 + 16 = eb E + (q + 18) by omega]
      refine K_iload_n C dX7_init_15 rfl 0 rfl ?_
      refine K_aload_n C dX7_init_16 rfl 1 rfl ?_
      refine K_get C trM_b rfl wl_X7 0 (by decide) wfi_X7_11 rfl dX7_init_17 ?_
      refine K_alen C 2 rfl trM_r dX7_init_20 ?_
      refine K_icmp_ge C ⟨by decide, by decide⟩ ⟨by decide, by decide⟩ (tgt := 44) dX7_init_21 (by decide) (fun _ => ?_) (fun z => absurd (by decide) z)
      refine K_aload_n C dX7_init_44 rfl 1 rfl ?_
      refine K_new C wl_X6 tyX6 tyX6_ok wn_X7_9 wi_X6 wz_X6 (ci := 6) rfl (fs := [.int 0, .int 0, .int 0, .null, .null]) (by decide) (by decide) dX7_init_45 ?_
      refine K_dup C dX7_init_48 rfl ?_
      refine K_aload_n C dX7_init_49 rfl 2 rfl ?_
      refine K_call C hAe (ct_X6i (q := q + 18) (by have := k2 16 (by omega); exact this) (by omega) (updM_self _ _ _)) ck_X6i wm_X7_17i wim_X6 rfl ⟨rfl, rfl⟩ (by decide) (by decide) (As := [.ref (eb E + 1)]) (rest := [.ref (eb E + (q + 18)), .ref (eb E + q)]) rfl rfl (Nat.le_of_ble_eq_true rfl) dX7_init_50 ?_
      refine K_putF C (k := 1) (a := eb E + q) (fs := [.ref (eb E + q + 1), .null, .int 0]) (ci := 7) ?_ (hAe _ (by omega)) rfl wl_X7 tyX7 tyX7_ok nmX7 (by decide) wfi_X7_20 rfl hin rfl rfl rfl rfl (Nat.le_of_ble_eq_true rfl) dX7_init_53 ?_
      · unfold blM
        rw [if_neg (by omega), updM_ne (by omega)]
        exact trM_b
      · refine K_ret C (by rw [hmc]; decide) (by rw [hms]; decide) (fun a e ha => ?_) dX7_init_56
        unfold blM at ha ⊢
        by_cases h1 : a = eb E + q
        · rw [if_pos (by omega)] at ha
          rw [h1, updM_self, ← ha, h1, show eb E + q - eb E = q by omega, clE_k E sg0 k0]
          rw [show clK E sg0 q 12 = (Sum.inr (7, [Value.ref (adE E (q + 1)), Value.ref (adE E (q + 18)), Value.int (jI (gI sg0 q 2))]) : va_E) from rfl, adE_lo E (by omega), adE_lo E (by omega), sg0_0 (by omega) (by omega)]
          rfl
        · rw [updM_ne h1]
          by_cases h2 : eb E + (q + 18) ≤ a ∧ a < eb E + (q + 18) + 1
          · rw [if_pos h2]
            rw [if_pos (by omega)] at ha
            exact ha
          · rw [if_neg h2, updM_ne (by omega)]
            unfold trM
            rw [if_neg h1]
            by_cases h3 : a = eb E + q + 1
            · rw [if_pos h3]
              rw [if_pos (by omega)] at ha
              rw [← ha, h3, show eb E + q + 1 - eb E = q + 1 by omega, clE_k E sg0 k1]
              have ef : (fun j : Nat => if j % 16 < 16 then some (eb E + q + 2 + j % 16) else none) = fun j : Nat => some (adE E (gR sg0 (q + 1) (j : Int))) := funext (fun j => by
                have eg : gR sg0 (q + 1) (j : Int) = q + 1 + 1 + (j : Int).toNat % 16 := by
                  show (if kdO (q + 1) = 13 then _ else _) = _
                  rw [if_pos k1]
                rw [if_pos (by omega), eg, adE_lo E (by omega)]
                congr 1
                omega)
              rw [ef]
              rfl
            · rw [if_neg h3]
              by_cases h4 : eb E + q ≤ a ∧ a < eb E + q + 19
              · rw [if_pos h4] at ha
                rw [if_pos (by omega)]
                exact ha
              · rw [if_neg h4] at ha
                rw [if_neg (by omega)]
                exact ha
    | succ d ih =>
      intro k hk
      have rk : rgI (k : Int) := ⟨by omega, by omega⟩
      refine K_iload_n C dX7_init_15 rfl 0 rfl ?_
      refine K_aload_n C dX7_init_16 rfl 1 rfl ?_
      refine K_get C trM_b rfl wl_X7 0 (by decide) wfi_X7_11 rfl dX7_init_17 ?_
      refine K_alen C 2 rfl trM_r dX7_init_20 ?_
      refine K_icmp_ge C rk ⟨by decide, by decide⟩ (tgt := 44) dX7_init_21 (by decide) (fun z => absurd z (by omega)) (fun _ => ?_)
      refine K_aload_n C dX7_init_24 rfl 1 rfl ?_
      refine K_get C trM_b rfl wl_X7 0 (by decide) wfi_X7_11 rfl dX7_init_25 ?_
      refine K_iload_n C dX7_init_28 rfl 0 rfl ?_
      rw [show eb E + q + 2 + k = eb E + (q + 2 + k) by omega]
      refine K_new C wl_X6 tyX6 tyX6_ok wn_X7_9 wi_X6 wz_X6 (ci := 6) rfl (fs := [.int 0, .int 0, .int 0, .null, .null]) (by decide) ⟨by show 1 + k + 1 ≤ 18; omega, by show 16 + 5 * k + 5 ≤ 101; omega⟩ dX7_init_29 ?_
      refine K_dup C dX7_init_32 rfl ?_
      refine K_aload_n C dX7_init_33 rfl 2 rfl ?_
      refine K_call C hAe (ct_X6i (q := q + 2 + k) (k2 k (by omega)) (by omega) (updM_self _ _ _)) ck_X6i wm_X7_17i wim_X6 rfl ⟨rfl, rfl⟩ (by decide) ⟨by show 1 + k + 1 + 0 ≤ 18; omega, by show 16 + 5 * k + 5 + 0 ≤ 101; omega⟩ (As := [.ref (eb E + 1)]) (rest := [.ref (eb E + (q + 2 + k)), .int (jI (k : Int)), .ref (eb E + q + 1)]) rfl rfl (Nat.le_of_ble_eq_true rfl) dX7_init_34 ?_
      refine K_aast C (a := eb E + q + 1) (v := eb E + (q + 2 + k)) (n := 16) (cA := ecS E) (ci := 6) (vs := [Value.int (jI (gI sg0 (q + 2 + k) 0)), Value.int (jI (gI sg0 (q + 2 + k) 1)), Value.int (jI (gI sg0 (q + 2 + k) 2)), Value.ref (adE E (gR sg0 (q + 2 + k) 3)), Value.ref (adE E (gR sg0 (q + 2 + k) 4))]) (f := fun j => if j % 16 < k then some (eb E + q + 2 + j % 16) else none) (f' := fun j => if j % 16 < k + 1 then some (eb E + q + 2 + j % 16) else none) 2 rfl ?_ ?_ rfl (hAe _ (by omega)) (by decide) (by omega) (by omega) (fun j hj => ?_) dX7_init_37 ?_
      · unfold blM
        rw [if_neg (by omega), updM_ne (by omega)]
        exact trM_r
      · unfold blM
        rw [if_pos (by omega), show eb E + (q + 2 + k) - eb E = q + 2 + k by omega, clE_k E sg0 (k2 k (by omega))]
        rfl
      · show (if j % 16 < k + 1 then some (eb E + q + 2 + j % 16) else none) = if j = ((k : Int)).toNat then some (eb E + (q + 2 + k)) else if j % 16 < k then some (eb E + q + 2 + j % 16) else none
        by_cases e1 : j = k
        · rw [if_pos (by omega), if_pos (by omega)]
          congr 1
          omega
        · rw [if_neg (by omega : ¬ j = ((k : Int)).toNat)]
          by_cases e2 : j < k
          · rw [if_pos (by omega), if_pos (by omega)]
          · rw [if_neg (by omega), if_neg (by omega)]
      · refine K_iinc C dX7_init_38 0 rfl (by decide) rfl ?_
        refine K_goto C (tgt := 15) dX7_init_41 (by decide) ?_
        have g := ih (k + 1) (by omega)
        rw [show 1 + (k + 1) = 1 + k + 1 + 0 by omega, show 16 + 5 * (k + 1) = 16 + 5 * k + 5 + 0 by omega, show eb E + q + 2 + (k + 1) = eb E + (q + 2 + k) + 1 by omega, show ((k + 1 : Nat) : Int) = (k : Int) + 1 by omega] at g
        refine JW.mono g (fun a e ha => ?_)
        unfold trM at ha
        by_cases h2 : a = eb E + q + 1
        · rw [if_neg (by omega), if_pos h2] at ha
          rw [h2, updM_self]
          exact ha
        · rw [updM_ne h2]
          unfold blM
          by_cases h3 : eb E + (q + 2 + k) ≤ a ∧ a < eb E + (q + 2 + k) + 1
          · rw [if_neg (by omega), if_neg h2, if_pos (by omega)] at ha
            rw [if_pos h3]
            exact ha
          · rw [if_neg h3, updM_ne (by omega)]
            unfold trM
            by_cases h1 : a = eb E + q
            · rw [if_pos h1] at ha ⊢
              exact ha
            · rw [if_neg h1, if_neg h2] at ha ⊢
              by_cases h4 : eb E + q + 2 ≤ a ∧ a < eb E + q + 2 + k
              · rw [if_pos h4]
                rw [if_pos (by omega)] at ha
                exact ha
              · rw [if_neg h4]
                rw [if_neg (by omega)] at ha
                exact ha
  have g := loop 16 0 rfl
  refine JW.mono g (fun a e ha => ?_)
  unfold trM at ha
  by_cases h1 : a = eb E + q
  · rw [if_pos h1] at ha
    rw [h1, updM_self]
    exact ha
  · by_cases h2 : a = eb E + q + 1
    · rw [if_neg h1, if_pos h2] at ha
      rw [updM_ne h1, h2, updM_self, ← ha]
      have ef : (fun j : Nat => if j % 16 < 0 then some (eb E + q + 2 + j % 16) else none) = fun _ => none := funext (fun j => if_neg (by omega))
      rw [ef]
    · rw [if_neg h1, if_neg h2, if_neg (by omega)] at ha
      rw [updM_ne h1, updM_ne h2]
      exact ha
