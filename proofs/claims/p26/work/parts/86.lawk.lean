/-! the law's start: what its tables say of the world -/
theorem lk_in {w : Cond} (i : Nat) (h : tables_1[i]? = some w) : w ∈ lw_tbl := List.mem_append_right _ (List.mem_of_getElem? h)
theorem lk_tab {args : Array Value} {s : State} {A : Nat → Prop} {nm : String} {f : Nat → Int} (hA : ∀ a : Nat, a < s.heap.size → ¬ A a) (hini : (Cond.initialized "CutConformer").before args s = true) (hl : (Cond.laysStatic "CutConformer" nm "[I").before args s = true) (harr : (Cond.arrayOf (.static "CutConformer" nm "[I") .int).before args s = true) (hlen : (Cond.eq (.length (.static "CutConformer" nm "[I")) (.int 5)).before args s = true)
    (h0 : (Cond.eq (.elem (.static "CutConformer" nm "[I") (.int 0)) (.int (jI (f 0)))).before args s = true) (h1 : (Cond.eq (.elem (.static "CutConformer" nm "[I") (.int 1)) (.int (jI (f 1)))).before args s = true) (h2 : (Cond.eq (.elem (.static "CutConformer" nm "[I") (.int 2)) (.int (jI (f 2)))).before args s = true) (h3 : (Cond.eq (.elem (.static "CutConformer" nm "[I") (.int 3)) (.int (jI (f 3)))).before args s = true) (h4 : (Cond.eq (.elem (.static "CutConformer" nm "[I") (.int 4)) (.int (jI (f 4)))).before args s = true) :
    ∃ t : Nat, va_Z "CutConformer" nm "[I" (.ref t) A s s.heap ∧ va_T .int t 5 (fun j => .int (jI (f j))) A s s.heap := by
  obtain ⟨t, g1, g2⟩ := va_Tof (tm := .static "CutConformer" nm "[I") (ty := .int) (N := 5) (f := fun j => .int (jI (f j))) (A := A) (by decide) harr (va_eqt hlen) (fun j hj => by
    match j, hj with
    | 0, _ => exact va_eqt h0
    | 1, _ => exact va_eqt h1
    | 2, _ => exact va_eqt h2
    | 3, _ => exact va_eqt h3
    | 4, _ => exact va_eqt h4
    | j + 5, hj => exact absurd hj (by omega)) hA
  exact ⟨t, va_Zof hl hini g1 hA, g2⟩
theorem lk_prim {args : Array Value} {s : State} {ty : FieldType} (hp : ty = .int ∨ ty = .byte) (h : (Cond.arrayClass ty).before args s = true) : ∃ cA : ClassId, ArrOfT s cA ty ∧ va_RA s cA ty := by
  obtain ⟨c, k, comp, h1, h2, h3⟩ := Cond.arrayClass_spec h
  refine ⟨c, fun n z => ⟨(fun k h => by cases h), k, h2, comp, h3⟩, ?_⟩
  rcases hp with rfl | rfl
  · exact h1
  · exact h1
theorem lk_obj {args : Array Value} {s : State} {Cn : String} (h : (Cond.arrayOver (.object Cn)).before args s = true) : ∃ cA : ClassId, ArrOfT s cA (.object Cn) ∧ va_RA s cA (.object Cn) := by
  obtain ⟨comp, c, k, h1, -, h2, h3, h4⟩ := Cond.arrayOver_spec h
  exact ⟨c, fun n z => ⟨(fun k h => by cases h), k, h2, comp, h3⟩, k, comp, h2, h3, h1, h4⟩
abbrev lkS : Nat → Term := fun i => .string "CutConformer$Part" (if i = 0 then 44 else if i = 1 then 50 else 52)
set_option maxHeartbeats 4000000 in
theorem law_kn {p : Program} {s : State} {m : MethodId} {meth : Method} {c : Code} {b L : Nat} {xs : Nat → Int32} (hL : L ≤ 260) (C0 : lw_At p s m meth c b L xs) : ∃ E : ET, eb E = s.heap.size + 1 ∧ eb2 E = s.heap.size + 280 ∧ eS E = true ∧ (E = mE E 0 true ∧ ea E 9 = b) ∧ KnE E s := by
  obtain ⟨hx, hb, hr, hml, hown, hts, hX, hbl, hlocks, hgv⟩ := C0
  have hg : ∀ w ∈ lw_gt, w.before #[Value.ref b] s = true := fun w hw => hts w (lw_gt_good w hw).1
  have hs := flat_of_before _ hgv
  have hA : ∀ a : Nat, a < s.heap.size → ¬ (fun a => s.heap.size + 1 ≤ a + 1) a := fun a h z => by have z : s.heap.size + 1 ≤ a + 1 := z; omega
  have kn : ∀ k : Nat, ∃ x : ClassId × (Nat → Nat), ∀ q : vw_C, vwCl[k]? = some q → u_Kn s q.1 q.2.1 q.2.2 x.1 x.2 := by
    intro k
    match k with
    | 0 => obtain ⟨c, i, h⟩ := u_known (N := 3) hg wl_X0 (hg _ wi_X0); exact ⟨(c, i), fun q hq => by cases hq; exact h⟩
    | 1 => obtain ⟨c, i, h⟩ := u_known (N := 2) hg wl_X1 (hg _ wi_X1); exact ⟨(c, i), fun q hq => by cases hq; exact h⟩
    | 2 => obtain ⟨c, i, h⟩ := u_known (N := 2) hg wl_X2 (hg _ wi_X2); exact ⟨(c, i), fun q hq => by cases hq; exact h⟩
    | 3 => obtain ⟨c, i, h⟩ := u_known (N := 1) hg wl_X3 (hg _ wi_X3); exact ⟨(c, i), fun q hq => by cases hq; exact h⟩
    | 4 => obtain ⟨c, i, h⟩ := u_known (N := 2) hg wl_X4 (hg _ wi_X4); exact ⟨(c, i), fun q hq => by cases hq; exact h⟩
    | 5 => obtain ⟨c, i, h⟩ := u_known (N := 4) hg wl_X5 (hg _ wi_X5); exact ⟨(c, i), fun q hq => by cases hq; exact h⟩
    | 6 => obtain ⟨c, i, h⟩ := u_known (N := 5) hg wl_X6 (hg _ wi_X6); exact ⟨(c, i), fun q hq => by cases hq; exact h⟩
    | 7 => obtain ⟨c, i, h⟩ := u_known (N := 3) hg wl_X7 (hg _ wi_X7); exact ⟨(c, i), fun q hq => by cases hq; exact h⟩
    | 8 => obtain ⟨c, i, h⟩ := u_known (N := 5) hg wl_X8 (hg _ wi_X8); exact ⟨(c, i), fun q hq => by cases hq; exact h⟩
    | 9 => obtain ⟨c, i, h⟩ := u_known (N := 5) hg wl_X9 (hg _ wi_X9); exact ⟨(c, i), fun q hq => by cases hq; exact h⟩
    | k + 10 => exact ⟨(0, fun _ => 0), fun q hq => by simp [vwCl] at hq⟩
  obtain ⟨dd, hdd⟩ := Classical.axiomOfChoice kn
  obtain ⟨cI, hI1, hI2⟩ := lk_prim (Or.inl rfl) (hg _ wa_int)
  obtain ⟨cB, hB1, hB2⟩ := lk_prim (Or.inr rfl) (hg _ wa_byte)
  have ho1 : (Cond.arrayOver (.object "CutConformer$Subtitle")).before #[Value.ref b] s = true := hts _ (lk_in 107 (by decide +kernel))
  have ho2 : (Cond.arrayOver (.object "CutConformer$State")).before #[Value.ref b] s = true := hts _ (lk_in 206 (by decide +kernel))
  obtain ⟨cS, hS1, hS2⟩ := lk_obj ho1
  obtain ⟨cT, hT1, hT2⟩ := lk_obj ho2
  obtain ⟨t6, z6, y6⟩ := lk_tab (A := fun a => s.heap.size + 1 ≤ a + 1) (nm := "LOWEST") (f := fun j => tabE 6 j) hA (hg _ wz_X9) (hts _ (lk_in 575 (by decide +kernel))) (hs _ (by decide +kernel)) (hs _ (by decide +kernel)) (hs _ (by decide +kernel)) (hs _ (by decide +kernel)) (hs _ (by decide +kernel)) (hs _ (by decide +kernel)) (hs _ (by decide +kernel))
  obtain ⟨t7, z7, y7⟩ := lk_tab (A := fun a => s.heap.size + 1 ≤ a + 1) (nm := "HIGHEST") (f := fun j => tabE 7 j) hA (hg _ wz_X9) (hts _ (lk_in 577 (by decide +kernel))) (hs _ (by decide +kernel)) (hs _ (by decide +kernel)) (hs _ (by decide +kernel)) (hs _ (by decide +kernel)) (hs _ (by decide +kernel)) (hs _ (by decide +kernel)) (hs _ (by decide +kernel))
  obtain ⟨t8, z8, y8⟩ := lk_tab (A := fun a => s.heap.size + 1 ≤ a + 1) (nm := "AT_FIRST") (f := fun j => tabE 8 j) hA (hg _ wz_X9) (hts _ (lk_in 94 (by decide +kernel))) (hs _ (by decide +kernel)) (hs _ (by decide +kernel)) (hs _ (by decide +kernel)) (hs _ (by decide +kernel)) (hs _ (by decide +kernel)) (hs _ (by decide +kernel)) (hs _ (by decide +kernel))
  obtain ⟨ak, av, hst, hev⟩ := vk_Sof (args := #[Value.ref b]) (s := s) (N := 3) (tm := lkS) (len := lenJ) (byt := bytJ) (A := fun a => s.heap.size + 1 ≤ a + 1)
    (fun i hi => by match i, hi with
      | 0, _ => decide
      | 1, _ => decide
      | 2, _ => decide
      | i + 3, hi => exact absurd hi (by omega))
    (fun i hi => by match i, hi with
      | 0, _ => exact hs _ (by decide +kernel)
      | 1, _ => exact hs _ (by decide +kernel)
      | 2, _ => exact hs _ (by decide +kernel)
      | i + 3, hi => exact absurd hi (by omega))
    (fun i hi => by match i, hi with
      | 0, _ => exact hs _ (by decide +kernel)
      | 1, _ => exact hs _ (by decide +kernel)
      | 2, _ => exact hs _ (by decide +kernel)
      | i + 3, hi => exact absurd hi (by omega))
    (fun i hi => by match i, hi with
      | 0, _ => exact hs _ (by decide +kernel)
      | 1, _ => exact hs _ (by decide +kernel)
      | 2, _ => exact hs _ (by decide +kernel)
      | i + 3, hi => exact absurd hi (by omega))
    (fun i hi => by match i, hi with
      | 0, _ => exact hs _ (by decide +kernel)
      | 1, _ => exact hs _ (by decide +kernel)
      | 2, _ => exact hs _ (by decide +kernel)
      | i + 3, hi => exact absurd hi (by omega))
    (fun i hi j hj => by match i, hi, j, hj with
      | 0, _, 0, _ => exact hs _ (by decide +kernel)
      | 0, _, 1, _ => exact hs _ (by decide +kernel)
      | 0, _, 2, _ => exact hs _ (by decide +kernel)
      | 1, _, 0, _ => exact hs _ (by decide +kernel)
      | 1, _, 1, _ => exact hs _ (by decide +kernel)
      | 2, _, 0, _ => exact hs _ (by decide +kernel)
      | 2, _, 1, _ => exact hs _ (by decide +kernel)
      | 2, _, 2, _ => exact hs _ (by decide +kernel)
      | 0, _, j + 3, hj => exact absurd (show j + 3 < 3 from hj) (by omega)
      | 1, _, j + 2, hj => exact absurd (show j + 2 < 2 from hj) (by omega)
      | 2, _, j + 3, hj => exact absurd (show j + 3 < 3 from hj) (by omega)
      | i + 3, hi, _, _ => exact absurd hi (by omega))
    (fun i j hi hj hij => by match i, hi, j, hj with
      | 0, _, 0, _ => exact absurd rfl hij
      | 1, _, 1, _ => exact absurd rfl hij
      | 2, _, 2, _ => exact absurd rfl hij
      | 0, _, 1, _ => exact Or.inl (hs _ (by decide +kernel))
      | 0, _, 2, _ => exact Or.inl (hs _ (by decide +kernel))
      | 1, _, 2, _ => exact Or.inl (hs _ (by decide +kernel))
      | 1, _, 0, _ => exact Or.inr (hs _ (by decide +kernel))
      | 2, _, 0, _ => exact Or.inr (hs _ (by decide +kernel))
      | 2, _, 1, _ => exact Or.inr (hs _ (by decide +kernel))
      | i + 3, hi, _, _ => exact absurd hi (by omega)
      | _, _, j + 3, hj => exact absurd hj (by omega)) hA
  have hcs : va_Z "java/lang/String" "COMPACT_STRINGS" "Z" (.int 1) (fun a => s.heap.size + 1 ≤ a + 1) s s.heap := va_Zof (hts _ (lk_in 667 (by decide +kernel))) (hts _ (lk_in 13 (by decide +kernel))) (va_eqi (hs _ (by decide +kernel))) hA
  have hsi : va_Zq "jdk/internal/util/Preconditions" "SIOOBE_FORMATTER" "Ljava/util/function/BiFunction;" (fun a => s.heap.size + 1 ≤ a + 1) s s.heap := va_Zqof (hts _ (lk_in 683 (by decide +kernel))) (hts _ (lk_in 15 (by decide +kernel))) (hs _ (by decide +kernel)) hA
  have hsc : va_T .int b L (fun j => .int (xs j)) (fun a => s.heap.size + 1 ≤ a + 1) s s.heap := by
    obtain ⟨scr, h1, h2, h3, h4, h5⟩ := hX
    exact ⟨scr, h1, h2, h3, by omega, by rw [h4], h5, fun z => by have z : s.heap.size + 1 ≤ b + 1 := z; omega⟩
  refine ⟨(s.heap.size + 1, s.heap.size + 280, true, (fun k => (dd k).1, fun k => (dd k).2), cI, cB, cS, cT, fun k => if k < 3 then ak k else if k < 6 then av (k - 3) else if k = 6 then t6 else if k = 7 then t7 else if k = 8 then t8 else b, (L, xs), 0, true), rfl, rfl, rfl, ⟨rfl, rfl⟩, ⟨fun k q hq => hdd k q hq, fun k q hq => ?_⟩, ⟨⟨z6, y6⟩, ⟨z7, y7⟩, ⟨z8, y8⟩, ?_, hcs, hsi, hsc, hL⟩, ⟨vk_R.of (hts _ (lk_in 653 (by decide +kernel))) (hev 0 (by decide)), vk_R.of (hts _ (lk_in 706 (by decide +kernel))) (hev 1 (by decide)), vk_R.of (hts _ (lk_in 707 (by decide +kernel))) (hev 2 (by decide)), va_Nw.of rfl (hts _ (lk_in 93 (by decide +kernel))), va_Nw.of rfl (hts _ (lk_in 574 (by decide +kernel))), va_Nw.of rfl (hts _ (lk_in 576 (by decide +kernel))), va_Nw.of rfl (hts _ (lk_in 59 (by decide +kernel))), va_Nw.of rfl (hts _ (lk_in 76 (by decide +kernel))), va_AO.of ho1, va_AO.of ho2⟩, by show s.heap.size + 280 = s.heap.size + 1 + 279; omega, by show 1 ≤ s.heap.size + 1; omega⟩
  · match k, hq with
    | 0, hq => cases hq; exact ⟨hI1, hI2⟩
    | 1, hq => cases hq; exact ⟨hB1, hB2⟩
    | 2, hq => cases hq; exact ⟨hS1, hS2⟩
    | 3, hq => cases hq; exact ⟨hT1, hT2⟩
    | k + 4, hq => simp [tysE] at hq
  · refine ⟨fun i hi => ?_, fun i j hi hj e => ?_⟩
    · have h := hst.1 i hi
      have e1 : (if i < 3 then ak i else if i < 6 then av (i - 3) else if i = 6 then t6 else if i = 7 then t7 else if i = 8 then t8 else b) = ak i := if_pos hi
      have e2 : (if 3 + i < 3 then ak (3 + i) else if 3 + i < 6 then av (3 + i - 3) else if 3 + i = 6 then t6 else if 3 + i = 7 then t7 else if 3 + i = 8 then t8 else b) = av i := by
        rw [if_neg (by omega), if_pos (by omega), show 3 + i - 3 = i by omega]
      show va_O "java/lang/String" (if i < 3 then ak i else _) _ s s.heap ∧ va_OF "java/lang/String" "coder" "B" (.int 0) (if i < 3 then ak i else _) _ s s.heap ∧ va_OF "java/lang/String" "value" "[B" (.ref (if 3 + i < 3 then ak (3 + i) else _)) (if i < 3 then ak i else _) _ s s.heap ∧ va_T .byte (if 3 + i < 3 then ak (3 + i) else _) _ _ _ s s.heap
      rw [e1, e2]
      exact h
    · have e1 : ak i = ak j := by
        have e' : (if i < 3 then ak i else if i < 6 then av (i - 3) else if i = 6 then t6 else if i = 7 then t7 else if i = 8 then t8 else b) = (if j < 3 then ak j else if j < 6 then av (j - 3) else if j = 6 then t6 else if j = 7 then t7 else if j = 8 then t8 else b) := e
        rw [if_pos hi, if_pos hj] at e'
        exact e'
      exact hst.2 i j hi hj e1
