/-! the law: the first state, the loop, the start -/
def A00 : St := mkA 0 (fun _ => 0) (fun _ => 0) 0 (fun _ => 0) (fun k => tabE 8 k.toNat) 0 (fun _ => mkS 0 0 0 (mkP0 0 0 (fun _ => 0)) (mkP0 0 0 (fun _ => 0)))
def W00 : Wd := mkW A00 0 (fun _ => 0) 0 (fun _ => A00)
theorem inv00 : InvW W00 := by
  have h5 : ∀ n, n < 5 → tabE 6 n ≤ tabE 8 n ∧ tabE 8 n ≤ tabE 7 n := by decide
  refine ⟨⟨⟨by decide, by decide, fun p p0 p1 => absurd (show p < 0 from p1) (by omega), by decide⟩, ⟨by decide, by decide, fun p p0 p1 => absurd (show p < 0 from p1) (by omega), fun i j i0 ij j1 => absurd (show j < 0 from j1) (by omega)⟩, fun k k0 k1 => h5 k.toNat (by omega), ⟨by decide, by decide, fun p p0 p1 => absurd (show p < 0 from p1) (by omega), fun i j i0 ij j1 => absurd (show j < 0 from j1) (by omega)⟩⟩, ⟨by decide, by decide, fun j j0 j1 => absurd (show j < 0 from j1) (by omega)⟩, by decide, by decide, fun k k0 k1 => absurd (show k < 0 from k1) (by omega)⟩
theorem rows00 {q : Nat} (h : kdO (q + 1) = 13) : RowsC sg0 q := by
  have e : ∀ j, gR sg0 (q + 1) j = q + 1 + 1 + j.toNat % 16 := fun j => by
    show (if kdO (q + 1) = 13 then _ else _) = _
    rw [if_pos h]
  refine ⟨fun j j0 j1 => ?_, fun i j i0 i1 j0 j1 hij => ?_⟩
  · rw [e]
    omega
  · rw [e, e] at hij
    omega
theorem hs00 : HsC sg0 := by
  have e : ∀ j, gR sg0 62 j = 63 + 27 * (j.toNat % 8) := fun j => by
    show (if kdO 62 = 13 then 62 + 1 + j.toNat % 16 else if kdO 62 = 14 then 2 else if kdO 62 = 17 then 63 + 27 * (j.toNat % 8) else 0) = _
    rw [if_neg (by decide), if_neg (by decide), if_pos (by decide)]
  refine ⟨fun i i0 i1 => ?_, fun i j i0 i1 j0 j1 h => ?_⟩
  · rw [e]
    refine ⟨⟨i.toNat % 8, by omega, rfl⟩, rows00 ?_⟩
    rw [show 63 + 27 * (i.toNat % 8) + 8 + 1 = 63 + 27 * (i.toNat % 8) + 9 by omega, kdO_blk (q := 63 + 27 * (i.toNat % 8) + 9) (r := 9) (Or.inl ⟨i.toNat % 8, by omega, by omega⟩) (by omega)]
    decide
  · rw [e, e] at h
    omega
theorem cl00 : ClC sg0 W00 := by
  have vac : ∀ {p : Int} {P : Prop}, 0 ≤ p → p < 0 → P := fun h1 h2 => absurd h2 (by omega)
  refine ⟨⟨⟨sg0_0 (by decide) (by decide) _, fun p p0 p1 => vac p0 p1⟩, ⟨sg0_0 (by decide) (by decide) _, fun p p0 p1 => vac p0 p1⟩, fun k k0 k1 => ?_, ⟨sg0_0 (by decide) (by decide) _, rows00 (by decide), fun p p0 p1 => vac p0 p1⟩⟩, rows00 (by decide), ⟨sg0_0 (by decide) (by decide) _, fun p p0 p1 => vac p0 p1⟩, sg0_0 (by decide) (by decide) _, hs00, fun p p0 p1 => vac p0 p1⟩
  show (if 11 < 279 ∧ kdO 11 = 11 then tabE 8 k.toNat else if (11 : Nat) = 280 then (if k = 1435 then (2 : Int) else if k = 1436 then 24 else if k = 1437 then 2 else if k = 1438 then 6 else if k = 1439 then 16 else 0) else 0) = tabE 8 k.toNat
  exact if_pos (by decide)
theorem mo00 : MoC sg0 W00 := by
  have vac : ∀ {p : Int} {P : Prop}, 0 ≤ p → p < 0 → P := fun h1 h2 => absurd h2 (by omega)
  refine ⟨⟨⟨rfl, fun p p0 p1 => vac p0 p1⟩, ⟨rfl, fun p p0 p1 => vac p0 p1⟩, fun k k0 k1 => ?_, ⟨rfl, fun p p0 p1 => vac p0 p1⟩⟩, ⟨sg0_0 (by decide) (by decide) _, fun p p0 p1 => vac p0 p1⟩, sg0_0 (by decide) (by decide) _, fun p p0 p1 => vac p0 p1⟩
  have hk : k = 0 ∨ k = 1 ∨ k = 2 ∨ k = 3 ∨ k = 4 := by omega
  rcases hk with rfl | rfl | rfl | rfl | rfl <;> rfl
theorem wt00 : WtE sg0 := by
  refine ⟨fun q j => ?_, fun q j => ⟨fun hq => ?_, fun hq => ?_⟩, fun q hq => ?_, by decide, by decide, fun q => ⟨by show (0 : Int) ≤ 0; omega, by show (0 : Int) ≤ 40; omega⟩⟩
  · show rgI (if q < 279 ∧ kdO q = 11 then tabE 8 j.toNat else if q = 280 then (if j = 1435 then 2 else if j = 1436 then 24 else if j = 1437 then 2 else if j = 1438 then 6 else if j = 1439 then 16 else 0) else 0)
    split
    · exact tabE_rg _ _
    · split
      · (repeat' split) <;> exact ⟨by decide, by decide⟩
      · exact rgI_0
  · have e : gR sg0 q j = q + 1 + j.toNat % 16 := by
      show (if kdO q = 13 then _ else _) = _
      rw [if_pos hq]
    rw [e]
    have h := kd_next (r1 := 10 + j.toNat % 16) hq (by omega) (by omega) (by omega) (fun _ => kbO_13) (by omega) (by omega)
    rw [show q + (10 + j.toNat % 16 - 9) = q + 1 + j.toNat % 16 by omega] at h
    rw [h]
    unfold kbO
    rw [if_neg (by omega), if_neg (by omega), if_neg (by omega), if_neg (by omega), if_neg (by omega), if_neg (by omega), if_neg (by omega), if_neg (by omega), if_neg (by omega), if_neg (by omega)]
  · have e : gR sg0 q j = 63 + 27 * (j.toNat % 8) := by
      show (if kdO q = 13 then _ else if kdO q = 14 then 2 else if kdO q = 17 then _ else _) = _
      rw [if_neg (by omega), if_neg (by omega), if_pos hq]
    have h := kdO_blk (q := 63 + 27 * (j.toNat % 8)) (r := 0) (Or.inl ⟨j.toNat % 8, by omega, by omega⟩) (by omega)
    rw [e, h]
    rfl
  · have e : ∀ j, gR sg0 q j = 2 := fun j => by
      show (if kdO q = 13 then _ else if kdO q = 14 then 2 else _) = 2
      rw [if_neg (by omega), if_pos hq]
    rw [e, e]
    exact ⟨⟨by decide, by decide⟩, by decide, by decide⟩
theorem clE_sd {E : ET} {x : Bool} {σ : Sg} {q : Nat} : clE (sdE E x) σ q = clE E σ q := by
  unfold clE clK
  rfl
/-- from the heap address by address to both sides' numbers -/
theorem L_ofK {F : FT} {E : ET} {Q : State → Prop} {c0 s0 : Nat} {M : Nat → Option va_E} {pc : Nat} {lv : List (Nat × Value)} {st : List Value} (hs : eS E = true) (hb2 : eb2 E = eb E + 293) (hM : ∀ q, q < 293 → M (adE E q) = some (clE E sg0 q)) (h : LJ F E Q c0 s0 sg0 sg0 pc lv st) : JW F E Q c0 s0 (eb E + 293) M pc lv st := fun H locs ls h1 h2 h3 => by
  refine h H locs ls ⟨⟨fun q hq => ?_, wt00⟩, ⟨fun q hq => ?_, wt00⟩, ?_⟩ h2 h3
  · have hq2 : q < 279 := by
      unfold dmE at hq
      rw [if_pos hs] at hq
      have hn : gN sg0 = 293 := rfl
      omega
    exact h1.2 _ _ (hM q (by omega))
  · have hq2 : 279 ≤ q ∧ q < 293 := hq
    have := h1.2 _ _ (hM q (by omega))
    rw [clE_sd, show adE (sdE E false) q = adE E q from rfl]
    exact this
  · have hn : gN sg0 = 293 := rfl
    rw [h1.1, hn, hb2]
set_option maxHeartbeats 4000000 in
theorem law_step {F : FT} {E : ET} {b L : Nat} {vx : Nat → Int32} {Q : State → Prop} {σ τ : Sg} {W : Wd} (C : LC F E b L vx) (hend : ∀ c0 s0 σ τ lv, c0 ≤ 600000 ∧ s0 ≤ 7302250 → LJ F E Q c0 s0 σ τ 792 lv []) {k : Nat} (hk : k ≤ 513) (hW : ClC σ W) (hm : MoC τ W) (hI : InvW W)
    (next : 4 * k + 4 ≤ L → ∀ σ' τ' W', ClC σ' W' → MoC τ' W' → InvW W' → LJ F E Q (294 + 2 * (k + 1)) (16234 + 42 * (k + 1)) σ' τ' 18 [(3, .int (jI ((4 * (k + 1) : Nat) : Int))), (0, .ref b), (1, .ref (adE E 0)), (2, .ref (adE E 279))] []) : LJ F E Q (294 + 2 * k) (16234 + 42 * k) σ τ 18 [(3, .int (jI ((4 * k : Nat) : Int))), (0, .ref b), (1, .ref (adE E 0)), (2, .ref (adE E 279))] [] := by
  have hL := C.2.2.2.2.2.1.1
  refine L_iload_n C.1 dL_law_18 rfl 0 rfl ?_
  refine L_aload_n C.1 dL_law_19 rfl 1 rfl ?_
  refine L_slen C dL_law_20 ?_
  refine L_iconst C.1 dL_law_21 ?_
  refine L_isub C.1 dL_law_22 ?_
  refine L_icmp_gt C.1 ⟨by omega, by omega⟩ ⟨by omega, by omega⟩ (tgt := 792) dL_law_23 (by decide) (fun _ => hend _ _ _ _ _ ⟨by omega, by omega⟩) (fun h => ?_)
  have hkL : 4 * k + 4 ≤ L := by omega
  have nx : ∀ σ' τ' W', ClC σ' W' → MoC τ' W' → InvW W' → LJ F E Q (294 + 2 * k + 2) (16234 + 42 * k + 42) σ' τ' 786 [(3, .int (jI ((4 * k : Nat) : Int))), (0, .ref b), (1, .ref (adE E 0)), (2, .ref (adE E 279))] [] := fun σ' τ' W' a1 a2 a3 => by
    refine L_iinc C.1 dL_law_786 0 rfl (by decide) rfl ?_
    refine L_goto C.1 (tgt := 18) dL_law_789 (by decide) ?_
    have g := next hkL σ' τ' W' a1 a2 a3
    rw [show ((4 * (k + 1) : Nat) : Int) = ((4 * k : Nat) : Int) + 4 by omega, show 294 + 2 * (k + 1) = 294 + 2 * k + 2 by omega, show 16234 + 42 * (k + 1) = 16234 + 42 * k + 42 by omega] at g
    exact g
  have hc : 294 + 2 * k + 2 ≤ 600000 ∧ 16234 + 42 * k + 42 ≤ 7302250 := ⟨by omega, by omega⟩
  refine L_aload_n C.1 dL_law_26 rfl 1 rfl ?_
  refine L_iload_n C.1 dL_law_27 rfl 0 rfl ?_
  refine L_sld C (j := 4 * k) rfl (by omega) dL_law_28 ?_
  refine L_bipush C.1 dL_law_29 (by decide) ?_
  refine L_iand C.1 dL_law_31 ?_
  have rg := rg_and (vx (4 * k)).toInt 31
  generalize jAnd (vx (4 * k)).toInt 31 = v at rg ⊢
  by_cases e0 : v = 0
  · exact L_tswIn C.1 e0 ⟨by decide, by decide⟩ dL_law_32 (by decide) (by decide) (off := 108) (by decide) (tgt := 140) (by decide) (lo_piece C (by omega) hc hW hm hI nx)
  by_cases e1 : v = 1
  · exact L_tswIn C.1 e1 ⟨by decide, by decide⟩ dL_law_32 (by decide) (by decide) (off := 141) (by decide) (tgt := 173) (by decide) (lo_dropPiece C (by omega) hc hW hm hI nx)
  by_cases e2 : v = 2
  · exact L_tswIn C.1 e2 ⟨by decide, by decide⟩ dL_law_32 (by decide) (by decide) (off := 164) (by decide) (tgt := 196) (by decide) (lo_pieceAt C (by omega) hc hW hm hI nx)
  by_cases e3 : v = 3
  · exact L_tswIn C.1 e3 ⟨by decide, by decide⟩ dL_law_32 (by decide) (by decide) (off := 197) (by decide) (tgt := 229) (by decide) (lo_shot C (by omega) hc hW hm hI nx)
  by_cases e4 : v = 4
  · exact L_tswIn C.1 e4 ⟨by decide, by decide⟩ dL_law_32 (by decide) (by decide) (off := 246) (by decide) (tgt := 278) (by decide) (lo_shotAt C (by omega) hc hW hm hI nx)
  by_cases e5 : v = 5
  · exact L_tswIn C.1 e5 ⟨by decide, by decide⟩ dL_law_32 (by decide) (by decide) (off := 269) (by decide) (tgt := 301) (by decide) (lo_toNew C (by omega) hc hW hm hI nx)
  by_cases e6 : v = 6
  · exact L_tswIn C.1 e6 ⟨by decide, by decide⟩ dL_law_32 (by decide) (by decide) (off := 302) (by decide) (tgt := 334) (by decide) (lo_toOld C (by omega) hc hW hm hI nx)
  by_cases e7 : v = 7
  · exact L_tswIn C.1 e7 ⟨by decide, by decide⟩ dL_law_32 (by decide) (by decide) (off := 325) (by decide) (tgt := 357) (by decide) (lo_type C (by omega) hc hW hm hI nx)
  by_cases e8 : v = 8
  · exact L_tswIn C.1 e8 ⟨by decide, by decide⟩ dL_law_32 (by decide) (by decide) (off := 348) (by decide) (tgt := 380) (by decide) (lo_clear C (by omega) hc hW hm hI nx)
  by_cases e9 : v = 9
  · exact L_tswIn C.1 e9 ⟨by decide, by decide⟩ dL_law_32 (by decide) (by decide) (off := 361) (by decide) (tgt := 393) (by decide) (lo_add C (by omega) hc hW hm hI nx)
  by_cases e10 : v = 10
  · exact L_tswIn C.1 e10 ⟨by decide, by decide⟩ dL_law_32 (by decide) (by decide) (off := 404) (by decide) (tgt := 436) (by decide) (lo_drop C (by omega) hc hW hm hI nx)
  by_cases e11 : v = 11
  · exact L_tswIn C.1 e11 ⟨by decide, by decide⟩ dL_law_32 (by decide) (by decide) (off := 427) (by decide) (tgt := 459) (by decide) (lo_move C (by omega) hc hW hm hI nx)
  by_cases e12 : v = 12
  · exact L_tswIn C.1 e12 ⟨by decide, by decide⟩ dL_law_32 (by decide) (by decide) (off := 470) (by decide) (tgt := 502) (by decide) (lo_subtitle C (by omega) hc hW hm hI nx)
  by_cases e13 : v = 13
  · exact L_tswIn C.1 e13 ⟨by decide, by decide⟩ dL_law_32 (by decide) (by decide) (off := 503) (by decide) (tgt := 535) (by decide) (lo_part C (by omega) hc hW hm hI nx)
  by_cases e14 : v = 14
  · exact L_tswIn C.1 e14 ⟨by decide, by decide⟩ dL_law_32 (by decide) (by decide) (off := 546) (by decide) (tgt := 578) (by decide) (lo_set C (by omega) hc hW hm hI nx)
  by_cases e15 : v = 15
  · exact L_tswIn C.1 e15 ⟨by decide, by decide⟩ dL_law_32 (by decide) (by decide) (off := 579) (by decide) (tgt := 611) (by decide) (lo_conform C (by omega) hc hW hm hI nx)
  by_cases e16 : v = 16
  · exact L_tswIn C.1 e16 ⟨by decide, by decide⟩ dL_law_32 (by decide) (by decide) (off := 602) (by decide) (tgt := 634) (by decide) (lo_ifConform C (by omega) hc hW hm hI nx)
  by_cases e17 : v = 17
  · exact L_tswIn C.1 e17 ⟨by decide, by decide⟩ dL_law_32 (by decide) (by decide) (off := 635) (by decide) (tgt := 667) (by decide) (lo_stretches C (by omega) hc hW hm hI nx)
  by_cases e18 : v = 18
  · exact L_tswIn C.1 e18 ⟨by decide, by decide⟩ dL_law_32 (by decide) (by decide) (off := 658) (by decide) (tgt := 690) (by decide) (lo_shown C (by omega) hc hW hm hI nx)
  by_cases e19 : v = 19
  · exact L_tswIn C.1 e19 ⟨by decide, by decide⟩ dL_law_32 (by decide) (by decide) (off := 681) (by decide) (tgt := 713) (by decide) (lo_faults C (by omega) hc hW hm hI nx)
  by_cases e20 : v = 20
  · exact L_tswIn C.1 e20 ⟨by decide, by decide⟩ dL_law_32 (by decide) (by decide) (off := 704) (by decide) (tgt := 736) (by decide) (lo_told C (by omega) hc hW hm hI nx)
  by_cases e21 : v = 21
  · exact L_tswIn C.1 e21 ⟨by decide, by decide⟩ dL_law_32 (by decide) (by decide) (off := 727) (by decide) (tgt := 759) (by decide) (lo_undo C (by omega) hc hW hm hI nx)
  by_cases e22 : v = 22
  · exact L_tswIn C.1 e22 ⟨by decide, by decide⟩ dL_law_32 (by decide) (by decide) (off := 740) (by decide) (tgt := 772) (by decide) (lo_digest C (by omega) hc hW hm hI nx)
  exact L_tswOut C.1 rg dL_law_32 (by omega) (tgt := 786) (by decide) (LJ.widen (by omega) (by omega) (nx σ τ W hW hm hI))
theorem law_loop {F : FT} {E : ET} {b L : Nat} {vx : Nat → Int32} {Q : State → Prop} (C : LC F E b L vx) (hend : ∀ c0 s0 σ τ lv, c0 ≤ 600000 ∧ s0 ≤ 7302250 → LJ F E Q c0 s0 σ τ 792 lv []) : ∀ n k : Nat, k ≤ 513 → L ≤ n + 4 * k → ∀ σ τ W, ClC σ W → MoC τ W → InvW W → LJ F E Q (294 + 2 * k) (16234 + 42 * k) σ τ 18 [(3, .int (jI ((4 * k : Nat) : Int))), (0, .ref b), (1, .ref (adE E 0)), (2, .ref (adE E 279))] [] := by
  have hL := C.2.2.2.2.2.1.1
  intro n
  induction n with
  | zero =>
    intro k hk hn σ τ W hW hm hI
    exact law_step C hend hk hW hm hI (fun h => absurd h (by omega))
  | succ n ih =>
    intro k hk hn σ τ W hW hm hI
    exact law_step C hend hk hW hm hI (fun h σ' τ' W' a1 a2 a3 => ih (k + 1) (by omega) (by omega) σ' τ' W' a1 a2 a3)
theorem wn_L7 : Cond.classLink RL 7 RX9 ∈ lw_gt := gt_in (List.mem_append_right _ (List.mem_of_getElem? (i := 19) (by decide +kernel))) rfl
theorem wm_L9i : Cond.methodLink RL 9 yX9_init ∈ lw_gt := gt_in (List.mem_append_right _ (List.mem_of_getElem? (i := 21) (by decide +kernel))) rfl
theorem wn_L10 : Cond.classLink RL 10 RX10 ∈ lw_gt := gt_in (List.mem_append_right _ (List.mem_of_getElem? (i := 741) (by decide +kernel))) rfl
theorem wm_L12i : Cond.methodLink RL 12 yX10_init ∈ lw_gt := gt_in (List.mem_append_right _ (List.mem_of_getElem? (i := 743) (by decide +kernel))) rfl
set_option maxHeartbeats 4000000 in
theorem law_new {F : FT} {E : ET} {b : Nat} {Q : State → Prop} (C : Cx F E cL_law RL (some .boolean) room_1 4) (hA : ∀ a, eb E ≤ a + 1 → fA F a) (hs : eS E = true) (hb2 : eb2 E = eb E + 293) (hb1 : 1 ≤ eb E)
    (h : LJ F E Q 294 16234 sg0 sg0 18 [(3, .int (jI 0)), (0, .ref b), (1, .ref (adE E 0)), (2, .ref (adE E 279))] []) : JW F E Q 0 0 (eb E - 1) (fun _ => none) 0 [(0, .ref b)] [] := by
  refine K_new C wl_X9 tyX9 tyX9_ok wn_L7 wi_X9 wz_X9 (ci := 9) rfl (fs := [.null, .int 0, .null, .null, .null]) (by decide) ⟨Nat.le_of_ble_eq_true rfl, Nat.le_of_ble_eq_true rfl⟩ dL_law_0 ?_
  refine JW.at (z' := eb E) (by omega) ?_
  refine K_dup C dL_law_3 rfl ?_
  refine K_call C hA (ct_X9i hb1 (updM_self _ _ _)) ck_X9i wm_L9i wim_X9 rfl ⟨rfl, rfl⟩ (by decide) ⟨Nat.le_of_ble_eq_true rfl, Nat.le_of_ble_eq_true rfl⟩ (As := []) (rest := [.ref (eb E - 1)]) rfl rfl (Nat.le_of_ble_eq_true rfl) dL_law_4 ?_
  refine K_astore_n C dL_law_7 rfl (by decide) rfl ?_
  refine JW.at (z' := eb E + 279) (by omega) ?_
  refine K_new C wl_X10 tyX10 tyX10_ok wn_L10 wi_X10 wz_X10 (ci := 10) rfl (fs := [.null, .int 0, .null, .int 0, .null, .null, .null, .null, .null, .int 0, .null, .null, .null, .null, .null, .null, .int 0, .int 0]) (by decide) ⟨Nat.le_of_ble_eq_true rfl, Nat.le_of_ble_eq_true rfl⟩ dL_law_8 ?_
  refine K_dup C dL_law_11 rfl ?_
  refine K_call C hA (ct_X10i (q := 279) rfl (updM_self _ _ _)) ck_X10i wm_L12i wim_X10 rfl ⟨rfl, rfl⟩ (by decide) ⟨Nat.le_of_ble_eq_true rfl, Nat.le_of_ble_eq_true rfl⟩ (As := []) (rest := [.ref (eb E + 279)]) rfl rfl (Nat.le_of_ble_eq_true rfl) dL_law_12 ?_
  refine K_astore_n C dL_law_15 rfl (by decide) rfl ?_
  refine K_iconst C dL_law_16 ?_
  refine K_istore_n C dL_law_17 rfl (by decide) rfl ?_
  refine JW.at (z' := eb E + 293) (by omega) (L_ofK hs hb2 (fun q hq => ?_) ?_)
  · unfold blM
    by_cases h1 : 279 ≤ q
    · rw [adE_lo E (by omega), if_pos (by omega), show eb E + q - eb E = q by omega]
    · have hlt : adE E q < eb E + 279 := by
        unfold adE
        (repeat' split) <;> omega
      rw [if_neg (by omega), updM_ne (by omega)]
      exact o9_end hb1 (by omega)
  · refine L_sub [0, 3, 2, 1] rfl ?_
    rw [adE_0, adE_lo E (by omega)] at h
    exact h
theorem whole_start {p : Program} {e : Env} {s : State} {m : MethodId} {below : List Frame} {meth : Method} {c : Code} (l : Launch) (hflags : l.flags = flags0) {b L : Nat} {xs : Nat → Int32} (hL : L ≤ 2048) (C0 : lw_At p s m meth c b L xs) : W p l e room_1 s m #[Value.ref b] below meth c s.heap [] 0 0 (lw_Z below #[Value.ref b] s) (entryFrame m ([Value.ref b] : List Value).toArray 4) := by
  obtain ⟨E, he, he2, hs, hk⟩ := law_kn C0
  obtain ⟨hx, hb, hr, hml, hown, hts, hX, hbl, hlocks, hgv⟩ := C0
  have C : Cx (p, l, e, room_1, s, m, #[Value.ref b], below, meth, c, 0, 0, (fun a => eb E ≤ a + 1), 4, fun _ _ => True) E cL_law RL (some .boolean) room_1 4 :=
    ⟨hx, hb, hml, hown, fun w hw => hts w (lw_gt_good w hw).1, hr, hlocks, hk, fun a h => lo_A a h, fun a h => h, rfl, rfl⟩
  have C2 : Cx (p, l, e, room_1, s, m, #[Value.ref b], below, meth, c, 0, 0, (fun a => eb E ≤ a + 1), 4, fun _ _ => True) (sdE E false) cL_law RL (some .boolean) room_1 4 :=
    ⟨hx, hb, hml, hown, fun w hw => hts w (lw_gt_good w hw).1, hr, hlocks, hk, fun a h => lo_A (E := sdE E false) a h, fun a h => h, rfl, rfl⟩
  have hb2 : eb2 E = eb E + 293 := by omega
  have hbe : b + 1 < eb E := by omega
  have CL : LC (p, l, e, room_1, s, m, #[Value.ref b], below, meth, c, 0, 0, (fun a => eb E ≤ a + 1), 4, fun _ _ => True) E b L xs :=
    ⟨C, C2, hX, hbl, fun z => absurd hbe (Nat.not_lt.mpr z), ⟨hL, fun a h => h⟩, hs, hb2⟩
  have hend : ∀ c0 s0 σ τ lv, c0 ≤ 600000 ∧ s0 ≤ 7302250 → LJ (p, l, e, room_1, s, m, #[Value.ref b], below, meth, c, 0, 0, (fun a => eb E ≤ a + 1), 4, fun _ _ => True) E (lw_Z below #[Value.ref b] s) c0 s0 σ τ 792 lv [] := fun c0 s0 σ τ lv hc H locs ls h1 h2 h3 => by
    refine lv_iconst (v := 1) hx hb dL_law_792 (by decide) ?_
    refine va_forget (fun q hq => by
      have h9 : eb E ≤ q.base + 1 := h2.2.2 q hq
      have h8 : s.heap.size ≤ q.base := by omega
      exact h8) ?_
    refine W.widen (k := 600000) (n := 7302250) hc.1 hc.2 ?_
    exact lw_ret hx hb hr hlocks dL_law_793
  have hloop := law_loop CL hend 2048 0 (by omega) (by omega) sg0 sg0 W00 cl00 mo00 inv00
  have key := law_new (b := b) C (fun a h => h) hs hb2 (by omega) hloop
  rw [lg_entry_eq]
  exact key s.heap [] _ ⟨by omega, fun a x h => by cases h⟩ va_S.rf (lv_entry [.ref b] (Nat.le_of_ble_eq_true rfl))
