/-! the law: the first state, the start -/
def A00 : St := mkA 0 (fun _ => 0) (fun _ => 0) 0 (fun _ => 0) (fun k => tabE 8 k.toNat) 0 (fun _ => mkS 0 0 0 (mkP0 0 0 (fun _ => 0)) (mkP0 0 0 (fun _ => 0)))
def W00 : Wd := mkW A00 0 (fun _ => 0) 0 (fun _ => A00)
theorem inv00 : InvW W00 := by
  have h5 : ∀ n, n < 5 → tabE 6 n ≤ tabE 8 n ∧ tabE 8 n ≤ tabE 7 n := by decide
  refine ⟨⟨⟨by decide, by decide, fun p p0 p1 => absurd (show p < 0 from p1) (by omega), by decide⟩, ⟨by decide, by decide, fun p p0 p1 => absurd (show p < 0 from p1) (by omega), fun i j i0 ij j1 => absurd (show j < 0 from j1) (by omega)⟩, fun k k0 k1 => h5 k.toNat (by omega), ⟨by decide, by decide, fun p p0 p1 => absurd (show p < 0 from p1) (by omega), fun i j i0 ij j1 => absurd (show j < 0 from j1) (by omega)⟩⟩, ⟨by decide, by decide, fun j j0 j1 => absurd (show j < 0 from j1) (by omega)⟩, by decide, by decide, fun k k0 k1 => absurd (show k < 0 from k1) (by omega)⟩
theorem rows00 {q : Nat} (h : kdO (q + 1) = 13) : RowsC sg0 q := by
  have e : ∀ j, gR sg0 (q + 1) j = q + 1 + 1 + j.toNat % 16 := fun j => by
    show (if kdO (q + 1) = 13 then _ else _) = _
    rw [if_pos h]
  refine ⟨fun j j0 j1 => ?_, fun i j i0 i1 j0 j1 hij => ?_⟩
  · rw [e]
    omega
  · rw [e, e] at hij
    omega
theorem hs00 : HsC sg0 := by
  have e : ∀ j, gR sg0 62 j = 63 + 27 * (j.toNat % 8) := fun j => by
    show (if kdO 62 = 13 then 62 + 1 + j.toNat % 16 else if kdO 62 = 14 then 2 else if kdO 62 = 17 then 63 + 27 * (j.toNat % 8) else 0) = _
    rw [if_neg (by decide), if_neg (by decide), if_pos (by decide)]
  refine ⟨fun i i0 i1 => ?_, fun i j i0 i1 j0 j1 h => ?_⟩
  · rw [e]
    refine ⟨⟨i.toNat % 8, by omega, rfl⟩, rows00 ?_⟩
    rw [show 63 + 27 * (i.toNat % 8) + 8 + 1 = 63 + 27 * (i.toNat % 8) + 9 by omega, kdO_blk (q := 63 + 27 * (i.toNat % 8) + 9) (r := 9) (Or.inl ⟨i.toNat % 8, by omega, by omega⟩) (by omega)]
    decide
  · rw [e, e] at h
    omega
theorem cl00 : ClC sg0 W00 := by
  have vac : ∀ {p : Int} {P : Prop}, 0 ≤ p → p < 0 → P := fun h1 h2 => absurd h2 (by omega)
  refine ⟨⟨⟨sg0_0 (by decide) (by decide) _, fun p p0 p1 => vac p0 p1⟩, ⟨sg0_0 (by decide) (by decide) _, fun p p0 p1 => vac p0 p1⟩, fun k k0 k1 => ?_, ⟨sg0_0 (by decide) (by decide) _, rows00 (by decide), fun p p0 p1 => vac p0 p1⟩⟩, rows00 (by decide), ⟨sg0_0 (by decide) (by decide) _, fun p p0 p1 => vac p0 p1⟩, sg0_0 (by decide) (by decide) _, hs00, fun p p0 p1 => vac p0 p1⟩
  show (if 11 < 279 ∧ kdO 11 = 11 then tabE 8 k.toNat else if (11 : Nat) = 280 then (if k = 1435 then (2 : Int) else if k = 1436 then 24 else if k = 1437 then 2 else if k = 1438 then 6 else if k = 1439 then 16 else 0) else 0) = tabE 8 k.toNat
  exact if_pos (by decide)
theorem wt00 : WtE sg0 := by
  refine ⟨fun q j => ?_, fun q j => ⟨fun hq => ?_, fun hq => ?_⟩, fun q hq => ?_, by decide, by decide, fun q => ⟨by show (0 : Int) ≤ 0; omega, by show (0 : Int) ≤ 40; omega⟩⟩
  · show rgI (if q < 279 ∧ kdO q = 11 then tabE 8 j.toNat else if q = 280 then (if j = 1435 then 2 else if j = 1436 then 24 else if j = 1437 then 2 else if j = 1438 then 6 else if j = 1439 then 16 else 0) else 0)
    split
    · exact tabE_rg _ _
    · split
      · (repeat' split) <;> exact ⟨by decide, by decide⟩
      · exact rgI_0
  · have e : gR sg0 q j = q + 1 + j.toNat % 16 := by
      show (if kdO q = 13 then _ else _) = _
      rw [if_pos hq]
    rw [e]
    have h := kd_next (r1 := 10 + j.toNat % 16) hq (by omega) (by omega) (by omega) (fun _ => kbO_13) (by omega) (by omega)
    rw [show q + (10 + j.toNat % 16 - 9) = q + 1 + j.toNat % 16 by omega] at h
    rw [h]
    unfold kbO
    rw [if_neg (by omega), if_neg (by omega), if_neg (by omega), if_neg (by omega), if_neg (by omega), if_neg (by omega), if_neg (by omega), if_neg (by omega), if_neg (by omega), if_neg (by omega)]
  · have e : gR sg0 q j = 63 + 27 * (j.toNat % 8) := by
      show (if kdO q = 13 then _ else if kdO q = 14 then 2 else if kdO q = 17 then _ else _) = _
      rw [if_neg (by omega), if_neg (by omega), if_pos hq]
    have h := kdO_blk (q := 63 + 27 * (j.toNat % 8)) (r := 0) (Or.inl ⟨j.toNat % 8, by omega, by omega⟩) (by omega)
    rw [e, h]
    rfl
  · have e : ∀ j, gR sg0 q j = 2 := fun j => by
      show (if kdO q = 13 then _ else if kdO q = 14 then 2 else _) = 2
      rw [if_neg (by omega), if_pos hq]
    rw [e, e]
    exact ⟨⟨by decide, by decide⟩, by decide, by decide⟩
theorem wn_L16 : Cond.classLink RL 16 RX9 ∈ lw_gt := gt_in (List.mem_append_right _ (List.mem_of_getElem? (i := 18) (by decide +kernel))) rfl
theorem wm_L100 : Cond.methodLink RL 100 yX9_init ∈ lw_gt := gt_in (List.mem_append_right _ (List.mem_of_getElem? (i := 20) (by decide +kernel))) rfl
theorem wm_L101 : Cond.methodLink RL 101 yL_sets ∈ lw_gt := gt_in (List.mem_append_right _ (List.mem_of_getElem? (i := 503) (by decide +kernel))) rfl
theorem wst_Lsets : Cond.static yL_sets ∈ lw_gt := gt_in (List.mem_append_right _ (List.mem_of_getElem? (i := 504) (by decide +kernel))) rfl
theorem ck_Lsets : CkE yL_sets cL_sets 9 (some .boolean) 2 := ⟨gt_in (List.mem_append_right _ (List.mem_of_getElem? (i := 505) (by decide +kernel))) rfl, gt_in (List.mem_append_right _ (List.mem_of_getElem? (i := 0) (by decide +kernel))) rfl, by decide +kernel⟩
/-- from the heap address by address to the numbers, at the law's start -/
theorem L_ofK {F : FT} {E : ET} {Q : State → Prop} {c0 s0 : Nat} {M : Nat → Option va_E} {pc : Nat} {lv : List (Nat × Value)} {st : List Value} (hs : eS E = true) (hm0 : em E = 0) (hb2 : eb2 E = eb E + 279) (hM : ∀ q, q < 279 → M (adE E q) = some (clE E sg0 q)) (h : JQ F E Q c0 s0 sg0 pc lv st) : JW F E Q c0 s0 (eb E + 279) M pc lv st := fun H locs ls h1 h2 h3 => by
  have hn : gN sg0 = 293 := rfl
  refine h H locs ls ⟨fun q hq => ?_, wt00, fun _ => by rw [h1.1, hn, hb2]⟩ h2 h3
  have hq2 : q < 279 := by
    unfold dmE at hq
    rw [if_pos hs, hn, hm0] at hq
    omega
  exact h1.2 _ _ (hM q hq2)
/-- what the two pure theorems say together -/
def PureL (sl : Int) (sx : Int → Int) : Prop := wp_L_sets sl sx sg0 (fun v t => wp_L_law sl sx v t (fun x _ => x = 1))
set_option maxHeartbeats 4000000 in
theorem law_new {F : FT} {E : ET} {QF : State → Prop} (C : Cx F E cL_law RL (some .boolean) room_1 9) (hA : ∀ a, eb E ≤ a + 1 → fA F a) (hE : E = mE E 0 true) (hs : eS E = true) {sl : Int} {sx : Int → Int} (hsl : sl = scL E) (hsx : sx = scX E)
    (hret : ∀ {pc : Nat}, decode cL_law pc = .ok (.ireturn, 1) → ∀ {lv : List (Nat × Value)} {c0 s0 : Nat} {t : Sg}, c0 ≤ 298 ∧ s0 ≤ 2006 → JQ F (mE E 0 false) QF c0 s0 t pc lv [.int (jI 1)])
    (h : PureL sl sx) : JW F E QF 0 0 (eb E - 1) (fun _ => none) 0 [(0, .ref (ea E 9))] [] := by
  have hkb := C.kn.2.2.2
  have hz : eZ E = true := (congrArg eZ hE).trans rfl
  have hm0 : em E = 0 := (congrArg em hE).trans rfl
  have hA2 : ∀ σ a, adA E σ a → fA F a := fun σ a ha => by
    rcases ha with ha | ha
    · exact C.rg a ha
    · exact hA a (by omega)
  refine K_new C wl_X9 tyX9 tyX9_ok wn_L16 wi_X9 wz_X9 (ci := 9) rfl (fs := [.null, .int 0, .null, .null, .null]) (by decide) ⟨Nat.le_of_ble_eq_true rfl, Nat.le_of_ble_eq_true rfl⟩ dL_law_0 ?_
  refine JW.at (z' := eb E) (by omega) ?_
  refine K_dup C dL_law_3 rfl ?_
  refine K_call C hA (ct_X9i hkb.2 (updM_self _ _ _)) ck_X9i wm_L100 wim_X9 rfl ⟨rfl, rfl⟩ (by decide) ⟨Nat.le_of_ble_eq_true rfl, Nat.le_of_ble_eq_true rfl⟩ (As := []) (rest := [.ref (eb E - 1)]) rfl rfl (Nat.le_of_ble_eq_true rfl) dL_law_4 ?_
  refine L_ofK hs hm0 hkb.1 (fun q hq => o9_end hkb.2 hq) ?_
  rw [show (Value.ref (eb E - 1)) = Value.ref (adE E 0) by rw [adE_0]]
  refine J_astore_n C dL_law_7 rfl (by decide) (lv' := [(1, .ref (adE E 0)), (0, .ref (ea E 9))]) rfl ?_
  refine J_aload_n C dL_law_8 rfl 0 rfl ?_
  refine J_aload_n C dL_law_9 rfl 1 rfl ?_
  refine J_SG C (hA2 sg0) (ct_L_sets hz hs hsl hsx h) ck_Lsets wm_L101 wst_Lsets ⟨rfl, rfl⟩ (by decide) ⟨Nat.le_of_ble_eq_true rfl, Nat.le_of_ble_eq_true rfl⟩ (As := [.ref (adE E 0), .ref (ea E 9)]) (rest := []) rfl rfl (Nat.le_of_ble_eq_true rfl) dL_law_10 ?_
  rintro v σ' ⟨r, rfl, hr, hq⟩
  have hrr : rgI r := rg_z hr
  have key := jj_L_law (F := F) (E0 := E) (E := mE E 0 false) rfl (QF := QF) hs (sl := sl) (sx := sx) hsl hsx hrr (s := σ') (Q := fun x _ => x = 1) C (fun a ha => hA2 σ' a (by
    rcases ha with ha | ha
    · exact Or.inl ha
    · exact Or.inr ha)) (fun d => by
      intro x t lv c0 s0 hc hx
      subst hx
      exact hret d hc) hq
  intro H locs ls h1 h2 h3
  have h1' : RepE (mE E 0 false) σ' H := by
    rw [hE] at h1
    exact h1.drop hs hkb
  have e0 : adE (mE E 0 false) 0 = adE E 0 := adE_mE E 0 false (by omega)
  rw [e0] at key
  exact key H locs ls h1' h2 h3
