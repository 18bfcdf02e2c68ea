/-! the JDK's own methods -/
section JDKC
variable {F : FT} {E : ET} {cc : ByteArray} {own : String} {ret : Option FieldType} {rm : Room} {ml c0 s0 : Nat} {σ : Sg} {pc : Nat} {lv : List (Nat × Value)} {st : List Value}
theorem J_rsub (C : Cx F E cc own ret rm ml) {x y : Int32} (d : decode cc pc = .ok (.isub, 1)) (k : JJ F E c0 s0 σ (pc + 1) lv (.int (x - y) :: st)) : JJ F E c0 s0 σ pc lv (.int y :: .int x :: st) := fun H locs ls h1 h2 h3 => lv_isub C.hx C.hb d (k H locs ls h1 h2 h3)
theorem J_radd (C : Cx F E cc own ret rm ml) {x y : Int32} (d : decode cc pc = .ok (.iadd, 1)) (k : JJ F E c0 s0 σ (pc + 1) lv (.int (x + y) :: st)) : JJ F E c0 s0 σ pc lv (.int y :: .int x :: st) := fun H locs ls h1 h2 h3 => lv_iadd C.hx C.hb d (k H locs ls h1 h2 h3)
theorem J_rand (C : Cx F E cc own ret rm ml) {x y : Int32} (d : decode cc pc = .ok (.iand, 1)) (k : JJ F E c0 s0 σ (pc + 1) lv (.int (x &&& y) :: st)) : JJ F E c0 s0 σ pc lv (.int y :: .int x :: st) := fun H locs ls h1 h2 h3 => lv_iand C.hx C.hb d (k H locs ls h1 h2 h3)
theorem J_rushr (C : Cx F E cc own ret rm ml) {x y : Int32} (d : decode cc pc = .ok (.iushr, 1)) (k : JJ F E c0 s0 σ (pc + 1) lv (.int (uS x y) :: st)) : JJ F E c0 s0 σ pc lv (.int y :: .int x :: st) := fun H locs ls h1 h2 h3 => lv_iushr C.hx C.hb d rfl (k H locs ls h1 h2 h3)
theorem J_rldcw (C : Cx F E cc own ret rm ml) {v : Int32} {ix : Nat} (d : decode cc pc = .ok (.ldc_w ix, 3)) (hw : Jvm.Cond.constant own ix v ∈ lw_gt) (k : JJ F E c0 s0 σ (pc + 3) lv (.int v :: st)) : JJ F E c0 s0 σ pc lv st := fun H locs ls h1 h2 h3 => lv_ldcw C.hx C.hb C.ho (C.ht _ hw) d (k H locs ls h1 h2 h3)
end JDKC
theorem wcb265 : Cond.constant RJ6 265 (1431655765 : Int32) ∈ lw_gt := gt_in (List.mem_append_right _ (List.mem_of_getElem? (i := 700) (by decide +kernel))) rfl
theorem wcb266 : Cond.constant RJ6 266 (858993459 : Int32) ∈ lw_gt := gt_in (List.mem_append_right _ (List.mem_of_getElem? (i := 701) (by decide +kernel))) rfl
theorem wcb267 : Cond.constant RJ6 267 (252645135 : Int32) ∈ lw_gt := gt_in (List.mem_append_right _ (List.mem_of_getElem? (i := 702) (by decide +kernel))) rfl
theorem ck_bit : CkE yJ6_bitCount_0f7a4 cJ6_bitCount_0f7a4 1 (some .int) 1 := ⟨gt_in (List.mem_append_right _ (List.mem_of_getElem? (i := 699) (by decide +kernel))) rfl, gt_in (List.mem_append_right _ (List.mem_of_getElem? (i := 18) (by decide +kernel))) rfl, by decide +kernel⟩
theorem wst_bit : Cond.static yJ6_bitCount_0f7a4 ∈ lw_gt := gt_in (List.mem_append_right _ (List.mem_of_getElem? (i := 698) (by decide +kernel))) rfl
abbrev rm_bit : Room := { frames := 0, cells := 0, slots := 0, locals := 0 }
theorem ct_bit {l : Launch} {E : ET} {s : Sg} {x : Int} : MetE l E yJ6_bitCount_0f7a4 cJ6_bitCount_0f7a4 1 (some .int) rm_bit s [.int (jI x)] (qI (fun r t => r = jBit x ∧ t = s) (gN s)) := by
  refine MetJ (by decide +kernel) (Nat.le_of_ble_eq_true rfl) ?_
  intro F hl C hF
  subst hl
  show JJ F E 0 0 s 0 [(0, .int (jI x))] []
  refine J_iload_n C dJ6_bitCount_0f7a4_0 rfl 0 rfl ?_
  refine J_iload_n C dJ6_bitCount_0f7a4_1 rfl 0 rfl ?_
  refine J_iconst C dJ6_bitCount_0f7a4_2 ?_
  refine J_rushr C dJ6_bitCount_0f7a4_3 ?_
  refine J_rldcw C dJ6_bitCount_0f7a4_4 wcb265 ?_
  refine J_rand C dJ6_bitCount_0f7a4_7 ?_
  refine J_rsub C dJ6_bitCount_0f7a4_8 ?_
  refine J_istore_n C dJ6_bitCount_0f7a4_9 rfl (by decide) rfl ?_
  refine J_iload_n C dJ6_bitCount_0f7a4_10 rfl 0 rfl ?_
  refine J_rldcw C dJ6_bitCount_0f7a4_11 wcb266 ?_
  refine J_rand C dJ6_bitCount_0f7a4_14 ?_
  refine J_iload_n C dJ6_bitCount_0f7a4_15 rfl 0 rfl ?_
  refine J_iconst C dJ6_bitCount_0f7a4_16 ?_
  refine J_rushr C dJ6_bitCount_0f7a4_17 ?_
  refine J_rldcw C dJ6_bitCount_0f7a4_18 wcb266 ?_
  refine J_rand C dJ6_bitCount_0f7a4_21 ?_
  refine J_radd C dJ6_bitCount_0f7a4_22 ?_
  refine J_istore_n C dJ6_bitCount_0f7a4_23 rfl (by decide) rfl ?_
  refine J_iload_n C dJ6_bitCount_0f7a4_24 rfl 0 rfl ?_
  refine J_iload_n C dJ6_bitCount_0f7a4_25 rfl 0 rfl ?_
  refine J_iconst C dJ6_bitCount_0f7a4_26 ?_
  refine J_rushr C dJ6_bitCount_0f7a4_27 ?_
  refine J_radd C dJ6_bitCount_0f7a4_28 ?_
  refine J_rldcw C dJ6_bitCount_0f7a4_29 wcb267 ?_
  refine J_rand C dJ6_bitCount_0f7a4_32 ?_
  refine J_istore_n C dJ6_bitCount_0f7a4_33 rfl (by decide) rfl ?_
  refine J_iload_n C dJ6_bitCount_0f7a4_34 rfl 0 rfl ?_
  refine J_iload_n C dJ6_bitCount_0f7a4_35 rfl 0 rfl ?_
  refine J_bipush C dJ6_bitCount_0f7a4_36 (by decide) ?_
  refine J_rushr C dJ6_bitCount_0f7a4_38 ?_
  refine J_radd C dJ6_bitCount_0f7a4_39 ?_
  refine J_istore_n C dJ6_bitCount_0f7a4_40 rfl (by decide) rfl ?_
  refine J_iload_n C dJ6_bitCount_0f7a4_41 rfl 0 rfl ?_
  refine J_iload_n C dJ6_bitCount_0f7a4_42 rfl 0 rfl ?_
  refine J_bipush C dJ6_bitCount_0f7a4_43 (by decide) ?_
  refine J_rushr C dJ6_bitCount_0f7a4_45 ?_
  refine J_radd C dJ6_bitCount_0f7a4_46 ?_
  refine J_istore_n C dJ6_bitCount_0f7a4_47 rfl (by decide) rfl ?_
  refine J_iload_n C dJ6_bitCount_0f7a4_48 rfl 0 rfl ?_
  refine J_bipush C dJ6_bitCount_0f7a4_49 (by decide) ?_
  refine J_rand C dJ6_bitCount_0f7a4_51 ?_
  show JJ F E 0 0 s 52 [(0, _)] [.int (bcI (jI x))]
  rw [show bcI (jI x) = jI (jBit x) from (jI_of _).symm]
  exact J_iret C (Nat.zero_le _) (Nat.zero_le _) dJ6_bitCount_0f7a4_52 (by rw [hF]; exact ⟨_, rfl, rgI_of _, ⟨rfl, rfl⟩, rfl⟩)
section JDKB
variable {F : FT} {E : ET} {cc : ByteArray} {own : String} {ret : Option FieldType} {rm : Room} {ml c0 s0 : Nat} {σ : Sg} {pc : Nat} {lv : List (Nat × Value)} {st : List Value}
theorem K_bitCount (C : Cx F E cc own ret rm ml) {x : Int} {index : Nat} (hl : Cond.methodLink own index yJ6_bitCount_0f7a4 ∈ lw_gt) (hR : 1 ≤ rm.frames ∧ 20 ≤ rm.locals) (hW : (st.map fun v => v.category).sum ≤ 8) (hcs : c0 ≤ rm.cells ∧ s0 ≤ rm.slots) (d : decode cc pc = .ok (.invokestatic index, 3)) (kk : rgI (jBit x) → JJ F E c0 s0 σ (pc + 3) lv (.int (jI (jBit x)) :: st)) : JJ F E c0 s0 σ pc lv (.int (jI x) :: st) :=
  J_S C ct_bit ck_bit hl wst_bit ⟨rfl, rfl⟩ ⟨hR.1, hR.2⟩ hcs (As := [.int (jI x)]) (rest := st) rfl rfl hW d (J_pI (fun r hr he => by
    rw [he] at hr ⊢
    exact kk hr))
theorem K_strL_rg (i : Nat) : rgI (strL i) := by
  unfold strL
  rcases i with _ | _ | _ | i
  · exact ⟨by decide, by decide⟩
  · exact ⟨by decide, by decide⟩
  · exact ⟨by decide, by decide⟩
  · exact ⟨by show (-2147483648 : Int) ≤ 0; decide, by show (0 : Int) ≤ 2147483647; decide⟩
end JDKB
