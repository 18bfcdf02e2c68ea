/-! constructors: a copy of numbers from a table or a row -/
/-- what a copy reads -/
def srcK (ty : FieldType) (U : State) (H : Heap) (a0 n0 : Nat) (f : Nat → Int32) : Prop := ∃ scr : Cell, H[a0]? = some scr ∧ U.isArrayOf scr ty ∧ scr.vm ≠ .unknown ∧ n0 ≤ scr.slots.size ∧ ∀ j : Nat, j < n0 → scr.slots[j]? = some (.int (f j))
theorem srcK_T {ty : FieldType} {t n0 : Nat} {f : Nat → Int32} {A : Nat → Prop} {s : State} {H : Heap} {locs : List Loc} (h : va_T ty t n0 (fun j => .int (f j)) A s s.heap) (hS : va_S A s.heap H locs) : srcK ty s H t n0 f := by
  obtain ⟨scr, hs1, hs2, hs3, hs4, -, hs5, hs7⟩ := h
  exact ⟨scr, by rw [hS.2.1 t (Array.getElem?_eq_some_iff.mp hs1).1 hs7]; exact hs1, hs2, hs3, hs4, hs5⟩
theorem srcK_M {E : ET} {z t0 : Nat} {M : Nat → Option va_E} {H : Heap} {s : State} {a0 n0 : Nat} {f : Nat → Int32} {c0 : ClassId} {ty : FieldType} (hk : va_K (eD E) vwCl (tysE E) s) (ht : (tysE E)[t0]? = some (c0, ty)) (h : HW E z M H) (hM : M a0 = some (.inl (c0, n0, .inl f))) : srcK ty s H a0 n0 f := by
  refine ⟨_, h.2 a0 _ hM, (hk.2 t0 _ ht).1 n0 (fun j => .int (f j)), (fun q => by cases q), ?_, fun j hj => ?_⟩
  · show n0 ≤ (arrV c0 n0 (fun j => Value.int (f j))).slots.size
    rw [arrV_size]
    exact Nat.le_refl _
  · show (arrV c0 n0 (fun j => Value.int (f j))).slots[j]? = _
    rw [arrV_read _ _ hj]
section CTOR6
variable {F : FT} {E : ET} {cc : ByteArray} {own : String} {ret : Option FieldType} {rm : Room} {ml c0 s0 z : Nat} {M : Nat → Option va_E} {pc : Nat} {lv : List (Nat × Value)} {st : List Value} {Q : State → Prop}
theorem K_copy (C : Cx F E cc own ret rm ml) {a0 a1 n0 n1 n t1 : Nat} {c1 : ClassId} {ty : FieldType} {f g g' : Nat → Int32} (hsrc : ∀ (H : Heap) (locs : List Loc), HW E z M H → va_S (fA F) (fs F).heap H locs → srcK ty (fs F) H a0 n0 f) (ht1 : (tysE E)[t1]? = some (c1, ty)) (hp : refKind ty = false) (hM : M a1 = some (.inl (c1, n1, .inl g))) (hA : fA F a1) (hn0 : n ≤ n0) (hn1 : n ≤ n1) (hn : n < 2147483648) (hfit : ∀ i : Nat, i < n → fits ty (.int (f i)) = true) (hg : ∀ j, j < n1 → g' j = if j < n then f j else g j) {index : Nat} (hl : Cond.methodLink own index arraycopyName ∈ lw_gt) (w1 : Cond.native arraycopyName ∈ lw_gt) (w2 : Cond.static arraycopyName ∈ lw_gt) (w3 : Cond.initialized "java/lang/System" ∈ lw_gt) (hR : 1 ≤ rm.frames ∧ 26 ≤ rm.locals) (hW : (st.map fun v => v.category).sum ≤ 8)
    (d : decode cc pc = .ok (.invokestatic index, 3)) (kk : JW F E Q c0 s0 z (updM M a1 (.inl (c1, n1, .inl g'))) (pc + 3) lv st) : JW F E Q c0 s0 z M pc lv (.int (jI (n : Int)) :: .int (jI 0) :: .ref a1 :: .int (jI 0) :: .ref a0 :: st) := by
  intro H locs ls h1 h2 h3 T hT X
  obtain ⟨scr, hc0, ⟨hs6, k0, hk0, cm0, hkk0⟩, hs3, hs4, hs5⟩ := hsrc H locs h1 h2
  have hc1 : H[a1]? = some (vp_cell c1 (n1, .inl g)) := h1.2 a1 _ hM
  obtain ⟨-, k1, hk1, cm1, hkk1⟩ := (C.kn.1.2 t1 _ ht1).1 n1 (fun j => .int (g j))
  have rn : rgI (n : Int) := ⟨by omega, by omega⟩
  have e0 : (jI 0).toNatClampNeg = 0 := jI_clamp rgI_0
  have en : (jI (n : Int)).toNatClampNeg = n := by rw [jI_clamp rn]; omega
  have nn : ∀ {z : Int}, rgI z → 0 ≤ z → ¬ jI z < 0 := fun hz h0 h => by
    have := (jI_lt hz rgI_0).mp h
    omega
  have hlo26 : 2 * (F0 (fm F) pc ls (.int (jI (n : Int)) :: .int (jI 0) :: .ref a1 :: .int (jI 0) :: .ref a0 :: st)).monitorRoom + (st.map fun v => v.category).sum + (nativeFrameWords "java/lang/System" "arraycopy" 5 + 11) ≤ (fR F).locals := by
    have e5 : nativeFrameWords "java/lang/System" "arraycopy" 5 = 7 := by decide +kernel
    have h26 := hR.2
    rw [C.hR, e5]
    show 2 * 0 + _ + _ ≤ _
    omega
  obtain ⟨vm', X', step⟩ := X.arraycopy C.hx C.ho (C.ht _ hl) (C.ht _ w1) (C.ht _ w2) (C.ht _ w3) (src := a0) (dst := a1) (cs := scr) (cd := vp_cell c1 (n1, .inl g)) (srcPos := jI 0) (destPos := jI 0) (n := jI (n : Int)) (by rw [hT]; exact hc0) (by rw [hT]; exact hc1)
    hs6 (fun _ h => by cases h) hs3 (fun h => by cases h) hk0 hk1 hkk0 hkk1 (by simp [hp]) (nn rgI_0 (by decide)) (nn rgI_0 (by decide)) (nn rn (by omega))
    (by rw [jI_toInt rgI_0, jI_toInt rn]; omega)
    (by rw [jI_toInt rgI_0, jI_toInt rn]; show ¬ _ > ((arrV c1 n1 (fun j => .int (g j))).slots.size : Int); rw [arrV_size]; omega)
    (fun vm₁ _ i hi => by
      rw [en] at hi
      have e : scr.slots.getD ((jI 0).toNatClampNeg + i) .null = .int (f i) := by
        rw [e0, Nat.zero_add, Array.getD_eq_getD_getElem?, hs5 _ (by omega)]
        rfl
      refine ⟨?_, ?_⟩
      · rw [e]
        exact hfit i hi
      · rw [e]
        exact trivial)
    (g := F0 (fm F) pc ls (.int (jI (n : Int)) :: .int (jI 0) :: .ref a1 :: .int (jI 0) :: .ref a0 :: st)) rfl (by rw [C.hml]; exact h3.1) (rest := st) rfl (by rw [C.hb]; exact d) (by rw [C.hR]; exact hR.1) hlo26
  have e1 : copied scr (vp_cell c1 (n1, .inl g)) (jI 0) (jI 0) (jI (n : Int)) = vp_cell c1 (n1, .inl (va_cpy f g (jI 0).toNatClampNeg (jI 0).toNatClampNeg (jI (n : Int)).toNatClampNeg)) := va_copiedX (fun z => .int z) scr c1 f g (n0 := n0) hs5 (by rw [e0, en]; omega)
  have e2 : vp_cell c1 (n1, .inl (va_cpy f g (jI 0).toNatClampNeg (jI 0).toNatClampNeg (jI (n : Int)).toNatClampNeg)) = vp_cell c1 (n1, .inl g') := by
    show arrV c1 n1 (fun j => Value.int (va_cpy f g (jI 0).toNatClampNeg (jI 0).toNatClampNeg (jI (n : Int)).toNatClampNeg j)) = arrV c1 n1 (fun j => Value.int (g' j))
    refine arrV_ext (fun j hj => ?_)
    rw [hg j hj, e0, en]
    unfold va_cpy
    by_cases h : j < n
    · rw [if_pos ⟨Nat.zero_le _, by omega⟩, if_pos h, Nat.zero_add, Nat.sub_zero]
    · rw [if_neg (fun w => h (by omega)), if_neg h]
  rw [e1, e2] at X' step
  have hlt : a1 < H.size := (Array.getElem?_eq_some_iff.mp hc1).1
  have hheap : ((T.setVm vm').setCell a1 (vp_cell c1 (n1, .inl g'))).heap = H.setIfInBounds a1 (vp_cell c1 (n1, .inl g')) := by rw [← hT]; rfl
  have oq : ∀ a : Nat, a ≠ a1 → (H.setIfInBounds a1 (vp_cell c1 (n1, .inl g')))[a]? = H[a]? := fun a ha => by simp [Array.getElem?_setIfInBounds, Ne.symm ha]
  obtain ⟨t, x1, x2⟩ := kk _ _ ls (h1.upd (a := a1) (e := .inl (c1, n1, .inl g')) (by simp) (show (H.setIfInBounds a1 _)[a1]? = some _ by simp [Array.getElem?_setIfInBounds, hlt]) oq)
    ⟨by simp; exact h2.1, fun a g1 g2 => by
      rw [oq a (fun z => g2 (by rw [z]; exact hA))]
      exact h2.2.1 a g1 g2, fun q hq => by
      rcases List.mem_append.mp hq with h | h
      · exact h2.2.2 q h
      · obtain ⟨w, -, hw⟩ := List.mem_map.mp h
        rw [← hw]
        exact hA⟩ h3 _ hheap X'
  exact ⟨t, step t x1, x2⟩
end CTOR6
