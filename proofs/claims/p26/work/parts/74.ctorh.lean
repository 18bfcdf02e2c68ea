/-! constructors: History, the class -/
abbrev rm_X1i : Room := { frames := 4, cells := 217, slots := 1280, locals := 84 }
/-- k states are made -/
def hiF (E : ET) (k : Nat) : Nat → Option Nat := fun j => if j % 8 < k then some (adE E (63 + 27 * (j % 8))) else none
def hiM (E : ET) (M : Nat → Option va_E) (q k : Nat) : Nat → Option va_E := fun a =>
  if a = eb E + q then some (.inr (1, [.ref (eb E + (q + 1)), .int 0]))
  else if a = eb E + (q + 1) then some (.inl (ecT E, 8, .inr (.inr (.inr (.inr (hiF E k))))))
  else if eb E + (q + 1) < a ∧ a < eb E + (q + 2 + 27 * k) then some (clE E sg0 (a - eb E)) else M a
theorem hiM_b {E : ET} {M : Nat → Option va_E} {q k : Nat} : hiM E M q k (eb E + q) = some (.inr (1, [.ref (eb E + (q + 1)), .int 0])) := if_pos rfl
theorem hiM_r {E : ET} {M : Nat → Option va_E} {q k : Nat} : hiM E M q k (eb E + (q + 1)) = some (.inl (ecT E, 8, .inr (.inr (.inr (.inr (hiF E k)))))) := by
  unfold hiM
  rw [if_neg (by omega), if_pos rfl]
set_option maxHeartbeats 4000000 in
theorem ct_X1i {l : Launch} {E : ET} {q : Nat} {M : Nat → Option va_E} (hq : q = 61) (hM : M (eb E + q) = some (.inr (1, [.null, .int 0]))) : MetW l E yX1_init cX1_init 3 rm_X1i [.ref (eb E + q), .ref (eb E + 1)] (eb E + q + 1) M (eb E + (q + 218)) (blM E M q 218) 217 1280 (fun a => eb E ≤ a + 1) := by
  have kq : kdO q = 16 := by subst hq; exact kc61
  have kq1 : kdO (q + 1) = 17 := by subst hq; exact kc62
  have k5 : ∀ k, k < 8 → ∀ r, r < 27 → kdO (q + 2 + 27 * k + r) = kbO r := fun k hk r hr => kdO_blk (Or.inl ⟨k, hk, by omega⟩) hr
  refine MetWJ (by decide +kernel) (Nat.le_of_ble_eq_true rfl) lo_A (fun a h => h) rfl ?_
  intro F hl C hA hmc hms hin
  subst hl
  have hAe : ∀ a, eb E ≤ a + 1 → fA F a := fun a h => by rw [hA]; exact h
  show JW F E _ 0 0 (eb E + q + 1) M 0 [(0, .ref (eb E + q)), (1, .ref (eb E + 1))] []
  refine K_aload_n C dX1_init_0 rfl 0 rfl ?_
  refine K_objInit C wo_X1 wo_i wo_c (by decide) (Nat.le_of_ble_eq_true rfl) dX1_init_1 ?_
  refine K_aload_n C dX1_init_4 rfl 0 rfl ?_
  refine K_bipush C dX1_init_5 (by decide) ?_
  refine JW.at (z' := eb E + (q + 1)) (by omega) ?_
  refine K_newS C (N := 8) 3 rfl C.kn.2.2.1.2.2.2.2.2.2.2.2.2 wn_X1_9 rfl (by decide) (by decide) dX1_init_7 ?_
  refine K_putF C (k := 0) ((updM_ne (by omega)).trans hM) (hAe _ (by omega)) rfl wl_X1 tyX1 tyX1_ok nmX1 (by decide) wf_X1_11 rfl hin rfl rfl rfl rfl (Nat.le_of_ble_eq_true rfl) dX1_init_10 ?_
  refine K_iconst C dX1_init_13 ?_
  refine K_istore_n C dX1_init_14 rfl (by decide) rfl ?_
  have loop : ∀ d k : Nat, k + d = 8 → JW F E (MQ (fb F) (Qcw E (fA F) (eb E + (q + 218)) (blM E M q 218)) (fa F) (fs F) (fmc F) (fms F) (fA F)) (1 + 27 * k) (8 + 159 * k) (eb E + (q + 2 + 27 * k)) (hiM E M q k) 15 [(2, .int (jI (k : Int))), (0, .ref (eb E + q)), (1, .ref (eb E + 1))] [] := by
    intro d
    induction d with
    | zero =>
      intro k hk
      have ek : k = 8 := by omega
      subst ek
      refine JW.at (z' := eb E + (q + 218)) (by omega) ?_
      refine K_iload_n C dX1_init_15 rfl 0 rfl ?_
      refine K_aload_n C dX1_init_16 rfl 1 rfl ?_
      refine K_get C hiM_b rfl wl_X1 0 (by decide) wf_X1_11 rfl dX1_init_17 ?_
      refine K_alen C 3 rfl hiM_r dX1_init_20 ?_
      refine K_icmp_ge C ⟨by decide, by decide⟩ ⟨by decide, by decide⟩ (tgt := 44) dX1_init_21 (by decide) (fun _ => ?_) (fun z => absurd (by decide) z)
      refine K_ret C (by rw [hmc]; decide) (by rw [hms]; decide) (fun a e ha => ?_) dX1_init_44
      unfold blM at ha
      unfold hiM
      by_cases h1 : a = eb E + q
      · rw [if_pos (by omega)] at ha
        rw [if_pos h1, ← ha, h1, show eb E + q - eb E = q by omega, clE_k E sg0 kq]
        rw [show clK E sg0 q 16 = (Sum.inr (1, [Value.ref (adE E 62), Value.int (jI (gI sg0 q 1))]) : va_E) from rfl, adE_lo E (by omega), sg0_0 (by omega) (by omega), hq]
        rfl
      · rw [if_neg h1]
        by_cases h2 : a = eb E + (q + 1)
        · rw [if_pos (by omega)] at ha
          rw [if_pos h2, ← ha, h2, show eb E + (q + 1) - eb E = q + 1 by omega, clE_k E sg0 kq1]
          have ef : hiF E 8 = fun j : Nat => some (adE E (gR sg0 (q + 1) (j : Int))) := funext (fun j => by
            have eg : gR sg0 (q + 1) (j : Int) = 63 + 27 * ((j : Int).toNat % 8) := by
              show (if kdO (q + 1) = 13 then _ else if kdO (q + 1) = 14 then 2 else if kdO (q + 1) = 17 then _ else _) = _
              rw [if_neg (by omega), if_neg (by omega), if_pos kq1]
            unfold hiF
            rw [if_pos (by omega), eg, Int.toNat_natCast])
          rw [ef]
          rfl
        · rw [if_neg h2]
          by_cases h3 : eb E + (q + 1) < a ∧ a < eb E + (q + 2 + 27 * 8)
          · rw [if_pos h3]
            rw [if_pos (by omega)] at ha
            exact ha
          · rw [if_neg h3]
            rw [if_neg (by omega)] at ha
            exact ha
    | succ d ih =>
      intro k hk
      have rk : rgI (k : Int) := ⟨by omega, by omega⟩
      refine K_iload_n C dX1_init_15 rfl 0 rfl ?_
      refine K_aload_n C dX1_init_16 rfl 1 rfl ?_
      refine K_get C hiM_b rfl wl_X1 0 (by decide) wf_X1_11 rfl dX1_init_17 ?_
      refine K_alen C 3 rfl hiM_r dX1_init_20 ?_
      refine K_icmp_ge C rk ⟨by decide, by decide⟩ (tgt := 44) dX1_init_21 (by decide) (fun z => absurd z (by omega)) (fun _ => ?_)
      refine K_aload_n C dX1_init_24 rfl 1 rfl ?_
      refine K_get C hiM_b rfl wl_X1 0 (by decide) wf_X1_11 rfl dX1_init_25 ?_
      refine K_iload_n C dX1_init_28 rfl 0 rfl ?_
      refine K_new C wl_X5 tyX5 tyX5_ok wn_X1_9 wi_X5 wz_X5 (ci := 5) rfl (fs := [.null, .null, .null, .null]) (by decide) ⟨by show 1 + 27 * k + 1 ≤ 217; omega, by show 8 + 159 * k + 4 ≤ 1280; omega⟩ dX1_init_29 ?_
      refine K_dup C dX1_init_32 rfl ?_
      refine K_aload_n C dX1_init_33 rfl 2 rfl ?_
      refine K_call C hAe (ct_X5i (q := q + 2 + 27 * k) (k5 k (by omega)) (by omega) (updM_self _ _ _)) ck_X5i wm_X1_17i wim_X5 rfl ⟨rfl, rfl⟩ (by decide) ⟨by show 1 + 27 * k + 1 + 26 ≤ 217; omega, by show 8 + 159 * k + 4 + 155 ≤ 1280; omega⟩ (As := [.ref (eb E + 1)]) (rest := [.ref (eb E + (q + 2 + 27 * k)), .int (jI (k : Int)), .ref (eb E + (q + 1))]) rfl rfl (Nat.le_of_ble_eq_true rfl) dX1_init_34 ?_
      refine K_aast C (a := eb E + (q + 1)) (v := eb E + (q + 2 + 27 * k)) (n := 8) (cA := ecT E) (ci := 5) (vs := [Value.ref (adE E (q + 2 + 27 * k + 1)), Value.ref (adE E (q + 2 + 27 * k + 4)), Value.ref (adE E (q + 2 + 27 * k + 6)), Value.ref (adE E (q + 2 + 27 * k + 8))]) (f := hiF E k) (f' := hiF E (k + 1)) 3 rfl ?_ ?_ rfl (hAe _ (by omega)) (by decide) (by omega) (by omega) (fun j hj => ?_) dX1_init_37 ?_
      · unfold blM
        rw [if_neg (by omega), updM_ne (by omega)]
        exact hiM_r
      · unfold blM
        rw [if_pos (by omega), show eb E + (q + 2 + 27 * k) - eb E = q + 2 + 27 * k by omega, clE_k E sg0 (q := q + 2 + 27 * k) (k := 5) ((k5 k (by omega) 0 (by omega)).trans (by decide))]
        rfl
      · unfold hiF
        by_cases e1 : j = k
        · rw [if_pos (by omega), if_pos (by omega), adE_lo E (by omega)]
          congr 1
          omega
        · rw [if_neg (by omega : ¬ j = ((k : Int)).toNat)]
          by_cases e2 : j < k
          · rw [if_pos (by omega), if_pos (by omega)]
          · rw [if_neg (by omega), if_neg (by omega)]
      · refine K_iinc C dX1_init_38 0 rfl (by decide) rfl ?_
        refine K_goto C (tgt := 15) dX1_init_41 (by decide) ?_
        have g := ih (k + 1) (by omega)
        rw [show 1 + 27 * (k + 1) = 1 + 27 * k + 1 + 26 by omega, show 8 + 159 * (k + 1) = 8 + 159 * k + 4 + 155 by omega, show q + 2 + 27 * (k + 1) = q + 2 + 27 * k + 27 by omega, show ((k + 1 : Nat) : Int) = (k : Int) + 1 by omega] at g
        refine JW.mono g (fun a e ha => ?_)
        unfold hiM at ha
        by_cases h2 : a = eb E + (q + 1)
        · rw [if_neg (by omega), if_pos h2] at ha
          rw [h2, updM_self]
          exact ha
        · rw [updM_ne h2]
          unfold blM
          by_cases h3 : eb E + (q + 2 + 27 * k) ≤ a ∧ a < eb E + (q + 2 + 27 * k) + 27
          · rw [if_neg (by omega), if_neg h2, if_pos (by omega)] at ha
            rw [if_pos h3]
            exact ha
          · rw [if_neg h3, updM_ne (by omega)]
            unfold hiM
            by_cases h1 : a = eb E + q
            · rw [if_pos h1] at ha ⊢
              exact ha
            · rw [if_neg h1, if_neg h2] at ha ⊢
              by_cases h4 : eb E + (q + 1) < a ∧ a < eb E + (q + 2 + 27 * k)
              · rw [if_pos h4]
                rw [if_pos (by omega)] at ha
                exact ha
              · rw [if_neg h4]
                rw [if_neg (by omega)] at ha
                exact ha
  have g := loop 8 0 rfl
  refine JW.at (z' := eb E + (q + 2 + 27 * 0)) (by omega) (JW.mono g (fun a e ha => ?_))
  unfold hiM at ha
  by_cases h1 : a = eb E + q
  · rw [if_pos h1] at ha
    rw [h1, updM_self]
    exact ha
  · rw [updM_ne h1]
    by_cases h2 : a = eb E + (q + 1)
    · rw [if_neg h1, if_pos h2] at ha
      rw [h2, updM_self, ← ha]
      have ef : hiF E 0 = fun _ => none := funext (fun j => if_neg (by omega))
      rw [ef]
    · rw [if_neg h1, if_neg h2, if_neg (by omega)] at ha
      rw [updM_ne h2]
      exact ha
/-- the class's object under construction: its first three cells lie one place lower, behind them an empty row that nobody holds -/
def o9M (E : ET) (M : Nat → Option va_E) (n : Nat) (e0 : va_E) : Nat → Option va_E := fun a =>
  if a + 1 = eb E then some e0 else if a = eb E then some (clE E sg0 1) else if a = eb E + 1 then some (clE E sg0 2) else if a = eb E + 2 then none else if eb E + 3 ≤ a ∧ a < eb E + n then some (clE E sg0 (a - eb E)) else M a
theorem o9_get {E : ET} {M : Nat → Option va_E} {n len : Nat} {e0 x : va_E} (hb : 1 ≤ eb E) (hn : 4 ≤ n) : blM E (updM (o9M E M n e0) (eb E + n) x) n len (eb E - 1) = some e0 := by
  unfold blM
  rw [if_neg (by omega), updM_ne (by omega)]
  exact if_pos (by omega)
theorem o9_end {E : ET} {M : Nat → Option va_E} (hb : 1 ≤ eb E) {q : Nat} (hq : q < 279) : o9M E M 279 (clE E sg0 0) (adE E q) = some (clE E sg0 q) := by
  by_cases h0 : q = 0
  · subst h0
    rw [adE_0]
    unfold o9M
    rw [if_pos (by omega)]
  by_cases h1 : q = 1
  · subst h1
    rw [adE_1]
    unfold o9M
    rw [if_neg (by omega), if_pos rfl]
  by_cases h2 : q = 2
  · subst h2
    rw [adE_2]
    unfold o9M
    rw [if_neg (by omega), if_neg (by omega), if_pos rfl]
  rw [adE_lo E (by omega)]
  unfold o9M
  rw [if_neg (by omega), if_neg (by omega), if_neg (by omega), if_neg (by omega), if_pos (by omega), show eb E + q - eb E = q by omega]
theorem JW.ob9 {F : FT} {E : ET} {c0 s0 z n n' len : Nat} {M : Nat → Option va_E} {pc : Nat} {lv : List (Nat × Value)} {st : List Value} {Q : State → Prop} {e0 e1 x : va_E} (h : JW F E Q c0 s0 (eb E + n') (o9M E M n' e1) pc lv st) (hb : 1 ≤ eb E) (hn : 4 ≤ n ∧ 1 ≤ len) (hl : n' = n + len) (hz : z = eb E + n') : JW F E Q c0 s0 z (updM (blM E (updM (o9M E M n e0) (eb E + n) x) n len) (eb E - 1) e1) pc lv st := by
  rw [hz]
  refine JW.mono h (fun a e ha => ?_)
  unfold o9M at ha
  by_cases h1 : a + 1 = eb E
  · rw [if_pos h1] at ha
    rw [show a = eb E - 1 by omega, updM_self]; exact ha
  · rw [if_neg h1] at ha
    rw [updM_ne (by omega)]
    unfold blM
    by_cases h2 : eb E + n ≤ a ∧ a < eb E + n + len
    · rw [if_pos h2]
      rw [if_neg (by omega), if_neg (by omega), if_neg (by omega), if_pos (by omega)] at ha
      exact ha
    · rw [if_neg h2, updM_ne (by omega)]
      unfold o9M
      rw [if_neg h1]
      by_cases h4 : a = eb E
      · rw [if_pos h4] at ha ⊢
        exact ha
      · rw [if_neg h4] at ha ⊢
        by_cases h5 : a = eb E + 1
        · rw [if_pos h5] at ha ⊢
          exact ha
        · rw [if_neg h5] at ha ⊢
          by_cases h6 : a = eb E + 2
          · rw [if_pos h6] at ha ⊢
            exact ha
          · rw [if_neg h6] at ha ⊢
            by_cases h7 : eb E + 3 ≤ a ∧ a < eb E + n
            · rw [if_pos h7]
              rw [if_pos (by omega)] at ha
              exact ha
            · rw [if_neg h7]
              rw [if_neg (by omega)] at ha
              exact ha
abbrev rm_X9i : Room := { frames := 5, cells := 279, slots := 1707, locals := 106 }
set_option maxHeartbeats 4000000 in
theorem ct_X9i {l : Launch} {E : ET} {M : Nat → Option va_E} (hb : 1 ≤ eb E) (hM : M (eb E - 1) = some (.inr (9, [.null, .int 0, .null, .null, .null]))) : MetW l E yX9_init cX9_init 2 rm_X9i [.ref (eb E - 1)] (eb E) M (eb E + 279) (o9M E M 279 (clE E sg0 0)) 279 1707 (fun a => eb E ≤ a + 1) := by
  have k2 : kdO 2 = 3 := by decide
  have k3 : kdO 3 = 4 := by decide
  refine MetWJ (by decide +kernel) (Nat.le_of_ble_eq_true rfl) lo_A (fun a h => h) rfl ?_
  intro F hl C hA hmc hms hin
  subst hl
  have hAe : ∀ a, eb E ≤ a + 1 → fA F a := fun a h => by rw [hA]; exact h
  have ec1 : clE E sg0 1 = (Sum.inl (ecB E, 40, Sum.inl (fun _ => 0)) : va_E) := by
    rw [clE_k E sg0 kc1]
    have e : (fun j : Nat => jI (gI sg0 1 (j : Int))) = fun _ => 0 := funext (fun j => by rw [sg0_0 (by decide) (by decide)]; rfl)
    rw [← e]
    rfl
  have ec2 : clE E sg0 2 = (Sum.inr (2, [Value.int (jI 0), Value.ref (eb E + 3)]) : va_E) := by
    rw [clE_k E sg0 k2]
    rw [show clK E sg0 2 3 = (Sum.inr (2, [Value.int (jI (gI sg0 2 0)), Value.ref (adE E (2 + 1))]) : va_E) from rfl, adE_lo E (by omega), sg0_0 (by decide) (by decide)]
  have ec3 : clE E sg0 3 = (Sum.inl (ecB E, 0, Sum.inl (fun _ => 0)) : va_E) := by
    rw [clE_k E sg0 k3]
    have e : (fun j : Nat => jI (gI sg0 3 (j : Int))) = fun _ => 0 := funext (fun j => by rw [sg0_0 (by decide) (by decide)]; rfl)
    rw [show clK E sg0 3 4 = (Sum.inl (ecB E, (gL sg0 3).toNat, Sum.inl (fun j : Nat => jI (gI sg0 3 (j : Int)))) : va_E) from rfl, e]
    rfl
  show JW F E _ 0 0 (eb E) M 0 [(0, .ref (eb E - 1))] []
  refine K_aload_n C dX9_init_0 rfl 0 rfl ?_
  refine K_objInit C wo_X9 wo_i wo_c (by decide) (Nat.le_of_ble_eq_true rfl) dX9_init_1 ?_
  refine K_aload_n C dX9_init_4 rfl 0 rfl ?_
  refine K_bipush C dX9_init_5 (by decide) ?_
  refine K_newB C (N := 40) rfl (by decide) wa_byte (by decide) dX9_init_7 ?_
  refine K_putF C (k := 0) (a := eb E - 1) (ci := 9) (fs := [.null, .int 0, .null, .null, .null]) ((updM_ne (by omega)).trans hM) (hAe _ (by omega)) rfl wl_X9 tyX9 tyX9_ok nmX9 (by decide) wf_X9_9 rfl hin rfl rfl rfl rfl (Nat.le_of_ble_eq_true rfl) dX9_init_9 ?_
  refine K_new C wl_X2 tyX2 tyX2_ok wn_X9_13 wi_X2 wz_X2 (ci := 2) rfl (fs := [.int 0, .null]) (by decide) (by decide) dX9_init_12 ?_
  refine K_dup C dX9_init_15 rfl ?_
  refine K_iconst C dX9_init_16 ?_
  refine K_iconst C dX9_init_17 ?_
  refine K_newB C (N := 0) rfl (by decide) wa_byte (by decide) dX9_init_18 ?_
  refine K_iconst C dX9_init_20 ?_
  refine JW.at (z' := eb E + 3) (by omega) ?_
  refine K_call C (fun a h => ?_) (ct_X2i (b := eb E + 1) (z := eb E + 3) (a0 := eb E + 1 + 1) (x := 0) (m := 0) (mn := 0) (n := 0) (g := fun _ => 0) (g' := fun _ => 0) rfl (by decide) rgI_0 rgI_0 (by omega) (by omega) (by omega) ((updM_ne (by omega)).trans (updM_self _ _ _)) (updM_self _ _ _) (fun i hi => rfl) (fun j _ => rfl)) ck_X2i wm_X9_15i wim_X2 rfl ⟨rfl, rfl⟩ (by decide) (by decide) (As := [.int (jI 0), .ref (eb E + 1 + 1), .int (jI 0)]) (rest := [.ref (eb E + 1)]) rfl rfl (Nat.le_of_ble_eq_true rfl) dX9_init_21 ?_
  · rcases h with h | h | h
    · exact hAe _ (lo_A a h)
    · exact hAe _ (by omega)
    · exact hAe _ (by omega)
  refine JW.at (z' := eb E + 4) (by omega) (JW.mono (M' := o9M E M 4 (.inr (9, [.ref (eb E), .int 0, .null, .null, .null]))) ?_ (fun a e ha => ?_))
  · refine K_astore_n C dX9_init_24 rfl (by decide) rfl ?_
    refine K_aload_n C dX9_init_25 rfl 1 rfl ?_
    refine K_new C wl_X5 tyX5 tyX5_ok wn_X9_18 wi_X5 wz_X5 (ci := 5) rfl (fs := [.null, .null, .null, .null]) (by decide) (by decide) dX9_init_26 ?_
    refine K_dup C dX9_init_29 rfl ?_
    refine K_aload_n C dX9_init_30 rfl 0 rfl ?_
    have k5 : ∀ r, r < 27 → kdO (4 + r) = kbO r := fun r hr => kdO_blk (Or.inr (Or.inl (by omega))) hr
    refine K_call C hAe (ct_X5i (q := 4) k5 (by omega) (updM_self _ _ _)) ck_X5i wm_X9_20i wim_X5 rfl ⟨rfl, rfl⟩ (by decide) (by decide) (As := [.ref (eb E + 1)]) (rest := [.ref (eb E + 4), .ref (eb E - 1)]) rfl rfl (Nat.le_of_ble_eq_true rfl) dX9_init_31 ?_
    refine K_putF C (k := 2) (a := eb E - 1) (ci := 9) (fs := [.ref (eb E), .int 0, .null, .null, .null]) (o9_get hb (by omega)) (hAe _ (by omega)) rfl wl_X9 tyX9 tyX9_ok nmX9 (by decide) wf_X9_23 rfl hin rfl rfl rfl rfl (Nat.le_of_ble_eq_true rfl) dX9_init_34 ?_
    refine JW.ob9 (n := 4) (len := 27) (n' := 31) (e1 := .inr (9, [.ref (eb E), .int 0, .ref (eb E + 4), .null, .null])) ?_ hb (by omega) rfl (by omega)
    refine K_aload_n C dX9_init_37 rfl 1 rfl ?_
    refine K_new C wl_X8 tyX8 tyX8_ok wn_X9_27 wi_X8 wz_X8 (ci := 8) rfl (fs := [.null, .int 0, .null, .null, .int 0]) (by decide) (by decide) dX9_init_38 ?_
    refine K_dup C dX9_init_41 rfl ?_
    refine K_aload_n C dX9_init_42 rfl 0 rfl ?_
    refine K_call C hAe (ct_X8i (q := 31) (by omega) (updM_self _ _ _)) ck_X8i wm_X9_29i wim_X8 rfl ⟨rfl, rfl⟩ (by decide) (by decide) (As := [.ref (eb E + 1)]) (rest := [.ref (eb E + 31), .ref (eb E - 1)]) rfl rfl (Nat.le_of_ble_eq_true rfl) dX9_init_43 ?_
    refine K_putF C (k := 3) (a := eb E - 1) (ci := 9) (fs := [.ref (eb E), .int 0, .ref (eb E + 4), .null, .null]) (o9_get hb (by omega)) (hAe _ (by omega)) rfl wl_X9 tyX9 tyX9_ok nmX9 (by decide) wf_X9_30 rfl hin rfl rfl rfl rfl (Nat.le_of_ble_eq_true rfl) dX9_init_46 ?_
    refine JW.ob9 (n := 31) (len := 30) (n' := 61) (e1 := .inr (9, [.ref (eb E), .int 0, .ref (eb E + 4), .ref (eb E + 31), .null])) ?_ hb (by omega) rfl (by omega)
    refine K_aload_n C dX9_init_49 rfl 1 rfl ?_
    refine K_new C wl_X1 tyX1 tyX1_ok wn_X9_34 wi_X1 wz_X1 (ci := 1) rfl (fs := [.null, .int 0]) (by decide) (by decide) dX9_init_50 ?_
    refine K_dup C dX9_init_53 rfl ?_
    refine K_aload_n C dX9_init_54 rfl 0 rfl ?_
    refine K_call C hAe (ct_X1i (q := 61) (by omega) (updM_self _ _ _)) ck_X1i wm_X9_36i wim_X1 rfl ⟨rfl, rfl⟩ (by decide) (by decide) (As := [.ref (eb E + 1)]) (rest := [.ref (eb E + 61), .ref (eb E - 1)]) rfl rfl (Nat.le_of_ble_eq_true rfl) dX9_init_55 ?_
    refine K_putF C (k := 4) (a := eb E - 1) (ci := 9) (fs := [.ref (eb E), .int 0, .ref (eb E + 4), .ref (eb E + 31), .null]) (o9_get hb (by omega)) (hAe _ (by omega)) rfl wl_X9 tyX9 tyX9_ok nmX9 (by decide) wf_X9_37 rfl hin rfl rfl rfl rfl (Nat.le_of_ble_eq_true rfl) dX9_init_58 ?_
    refine JW.ob9 (n := 61) (len := 218) (n' := 279) (e1 := .inr (9, [.ref (eb E), .int 0, .ref (eb E + 4), .ref (eb E + 31), .ref (eb E + 61)])) ?_ hb (by omega) rfl (by omega)
    have e9 : clE E sg0 0 = (Sum.inr (9, [Value.ref (eb E), Value.int 0, Value.ref (eb E + 4), Value.ref (eb E + 31), Value.ref (eb E + 61)]) : va_E) := by
      rw [clE_k E sg0 kc0]
      rw [show clK E sg0 0 1 = (Sum.inr (9, [Value.ref (adE E 1), Value.int (jI (gI sg0 0 1)), Value.ref (adE E 4), Value.ref (adE E 31), Value.ref (adE E 61)]) : va_E) from rfl, adE_1, adE_lo E (by omega), adE_lo E (by omega), adE_lo E (by omega), sg0_0 (by decide) (by decide)]
      rfl
    refine K_ret C (by rw [hmc]; decide) (by rw [hms]; decide) (fun a e ha => ?_) dX9_init_61
    rw [e9] at ha
    exact ha
  · unfold o9M at ha
    unfold ptM
    by_cases h1 : a + 1 = eb E
    · rw [if_pos h1] at ha
      rw [updM_ne (by omega), updM_ne (by omega), updM_ne (by omega), updM_ne (by omega), show a = eb E - 1 by omega, updM_self]
      exact ha
    · rw [if_neg h1] at ha
      by_cases h4 : a = eb E
      · rw [if_pos h4] at ha
        rw [updM_ne (by omega), updM_ne (by omega), updM_ne (by omega), updM_ne (by omega), updM_ne (by omega), h4, updM_self, ← ec1]
        exact ha
      · rw [if_neg h4] at ha
        by_cases h5 : a = eb E + 1
        · rw [if_pos h5] at ha
          rw [h5, updM_self, ← ha, ec2]
        · rw [if_neg h5] at ha
          by_cases h6 : a = eb E + 2
          · rw [if_pos h6] at ha
            cases ha
          · rw [if_neg h6] at ha
            rw [updM_ne h5]
            by_cases h7 : eb E + 3 ≤ a ∧ a < eb E + 4
            · rw [if_pos h7, show a - eb E = 3 by omega, ec3] at ha
              rw [show a = eb E + 3 by omega, updM_self]
              exact ha
            · rw [if_neg h7] at ha
              rw [updM_ne (by omega), updM_ne (by omega), updM_ne (by omega), updM_ne (by omega), updM_ne (by omega)]
              exact ha
