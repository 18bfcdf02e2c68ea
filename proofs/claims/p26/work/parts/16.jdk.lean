/-! small things, and the JDK's own methods -/
theorem rgN (n : Int) (h : -2147483648 ≤ n ∧ n ≤ 2147483647) : rgI n := h
theorem rg_max {x y : Int} (hx : rgI x) (hy : rgI y) : rgI (max x y) := by
  obtain ⟨a, b⟩ := hx
  obtain ⟨c, d⟩ := hy
  exact ⟨by omega, by omega⟩
theorem rg_min {x y : Int} (hx : rgI x) (hy : rgI y) : rgI (min x y) := by
  obtain ⟨a, b⟩ := hx
  obtain ⟨c, d⟩ := hy
  exact ⟨by omega, by omega⟩
def uS (x s : Int32) : Int32 := (x.toUInt32 >>> (s.toUInt32 &&& Int32.toUInt32 31)).toInt32
def bcI1 (x : Int32) : Int32 := x - (uS x 1 &&& 1431655765)
def bcI2 (x : Int32) : Int32 := (x &&& 858993459) + (uS x 2 &&& 858993459)
def bcI3 (x : Int32) : Int32 := (x + uS x 4) &&& 252645135
def bcI (x : Int32) : Int32 := (fun y : Int32 => y + uS y 16) ((fun y : Int32 => y + uS y 8) (bcI3 (bcI2 (bcI1 x)))) &&& 63
def jBit (x : Int) : Int := (bcI (jI x)).toInt
def strL (i : Nat) : Int := ((lenJ.getD i 0 : Nat) : Int)
def strC (i : Nat) (k : Int) : Int := ((bytJ.getD i []).getD k.toNat 0).toInt
theorem strL_rg (i : Nat) : rgI (strL i) := by
  unfold strL
  rcases i with _ | _ | _ | i
  · exact ⟨by decide, by decide⟩
  · exact ⟨by decide, by decide⟩
  · exact ⟨by decide, by decide⟩
  · exact ⟨by show (-2147483648 : Int) ≤ 0; decide, by show (0 : Int) ≤ 2147483647; decide⟩
theorem strC_rg (i : Nat) (k : Int) : rgI (strC i k) := rgI_of _
/-! the JDK's own methods -/
section JDKC
variable {F : FT} {E : ET} {cc : ByteArray} {own : String} {ret : Option FieldType} {rm : Room} {ml c0 s0 : Nat} {σ : Sg} {pc : Nat} {lv : List (Nat × Value)} {st : List Value}
theorem J_rsub (C : Cx F E cc own ret rm ml) {x y : Int32} (d : decode cc pc = .ok (.isub, 1)) (k : JJ F E c0 s0 σ (pc + 1) lv (.int (x - y) :: st)) : JJ F E c0 s0 σ pc lv (.int y :: .int x :: st) := fun H locs ls h1 h2 h3 => lv_isub C.hx C.hb d (k H locs ls h1 h2 h3)
theorem J_radd (C : Cx F E cc own ret rm ml) {x y : Int32} (d : decode cc pc = .ok (.iadd, 1)) (k : JJ F E c0 s0 σ (pc + 1) lv (.int (x + y) :: st)) : JJ F E c0 s0 σ pc lv (.int y :: .int x :: st) := fun H locs ls h1 h2 h3 => lv_iadd C.hx C.hb d (k H locs ls h1 h2 h3)
theorem J_rand (C : Cx F E cc own ret rm ml) {x y : Int32} (d : decode cc pc = .ok (.iand, 1)) (k : JJ F E c0 s0 σ (pc + 1) lv (.int (x &&& y) :: st)) : JJ F E c0 s0 σ pc lv (.int y :: .int x :: st) := fun H locs ls h1 h2 h3 => lv_iand C.hx C.hb d (k H locs ls h1 h2 h3)
theorem J_rushr (C : Cx F E cc own ret rm ml) {x y : Int32} (d : decode cc pc = .ok (.iushr, 1)) (k : JJ F E c0 s0 σ (pc + 1) lv (.int (uS x y) :: st)) : JJ F E c0 s0 σ pc lv (.int y :: .int x :: st) := fun H locs ls h1 h2 h3 => lv_iushr C.hx C.hb d rfl (k H locs ls h1 h2 h3)
theorem J_rldcw (C : Cx F E cc own ret rm ml) {v : Int32} {ix : Nat} (d : decode cc pc = .ok (.ldc_w ix, 3)) (hw : Jvm.Cond.constant own ix v ∈ lw_gt) (k : JJ F E c0 s0 σ (pc + 3) lv (.int v :: st)) : JJ F E c0 s0 σ pc lv st := fun H locs ls h1 h2 h3 => lv_ldcw C.hx C.hb C.ho (C.ht _ hw) d (k H locs ls h1 h2 h3)
end JDKC
theorem wcb265 : Cond.constant RJ6 265 (1431655765 : Int32) ∈ lw_gt := gt_in (List.mem_append_right _ (List.mem_of_getElem? (i := 716) (by decide +kernel))) rfl
theorem wcb266 : Cond.constant RJ6 266 (858993459 : Int32) ∈ lw_gt := gt_in (List.mem_append_right _ (List.mem_of_getElem? (i := 717) (by decide +kernel))) rfl
theorem wcb267 : Cond.constant RJ6 267 (252645135 : Int32) ∈ lw_gt := gt_in (List.mem_append_right _ (List.mem_of_getElem? (i := 718) (by decide +kernel))) rfl
theorem ck_bit : CkE yJ6_bitCount_0f7a4 cJ6_bitCount_0f7a4 1 (some .int) 1 := ⟨gt_in (List.mem_append_right _ (List.mem_of_getElem? (i := 715) (by decide +kernel))) rfl, gt_in (List.mem_append_right _ (List.mem_of_getElem? (i := 17) (by decide +kernel))) rfl, by decide +kernel⟩
theorem wst_bit : Cond.static yJ6_bitCount_0f7a4 ∈ lw_gt := gt_in (List.mem_append_right _ (List.mem_of_getElem? (i := 714) (by decide +kernel))) rfl
abbrev rm_bit : Room := { frames := 0, cells := 0, slots := 0, locals := 0 }
theorem ct_bit {l : Launch} {E : ET} {s : Sg} {x : Int} : MetE l E yJ6_bitCount_0f7a4 cJ6_bitCount_0f7a4 1 (some .int) rm_bit s [.int (jI x)] (qI (fun r t => r = jBit x ∧ t = s) (gN s)) := by
  refine MetJ (by decide +kernel) (Nat.le_of_ble_eq_true rfl) ?_
  intro F hl C hF
  subst hl
  show JJ F E 0 0 s 0 [(0, .int (jI x))] []
  refine J_iload_n C dJ6_bitCount_0f7a4_0 rfl 0 rfl ?_
  refine J_iload_n C dJ6_bitCount_0f7a4_1 rfl 0 rfl ?_
  refine J_iconst C dJ6_bitCount_0f7a4_2 ?_
  refine J_rushr C dJ6_bitCount_0f7a4_3 ?_
  refine J_rldcw C dJ6_bitCount_0f7a4_4 wcb265 ?_
  refine J_rand C dJ6_bitCount_0f7a4_7 ?_
  refine J_rsub C dJ6_bitCount_0f7a4_8 ?_
  refine J_istore_n C dJ6_bitCount_0f7a4_9 rfl (by decide) rfl ?_
  refine J_iload_n C dJ6_bitCount_0f7a4_10 rfl 0 rfl ?_
  refine J_rldcw C dJ6_bitCount_0f7a4_11 wcb266 ?_
  refine J_rand C dJ6_bitCount_0f7a4_14 ?_
  refine J_iload_n C dJ6_bitCount_0f7a4_15 rfl 0 rfl ?_
  refine J_iconst C dJ6_bitCount_0f7a4_16 ?_
  refine J_rushr C dJ6_bitCount_0f7a4_17 ?_
  refine J_rldcw C dJ6_bitCount_0f7a4_18 wcb266 ?_
  refine J_rand C dJ6_bitCount_0f7a4_21 ?_
  refine J_radd C dJ6_bitCount_0f7a4_22 ?_
  refine J_istore_n C dJ6_bitCount_0f7a4_23 rfl (by decide) rfl ?_
  refine J_iload_n C dJ6_bitCount_0f7a4_24 rfl 0 rfl ?_
  refine J_iload_n C dJ6_bitCount_0f7a4_25 rfl 0 rfl ?_
  refine J_iconst C dJ6_bitCount_0f7a4_26 ?_
  refine J_rushr C dJ6_bitCount_0f7a4_27 ?_
  refine J_radd C dJ6_bitCount_0f7a4_28 ?_
  refine J_rldcw C dJ6_bitCount_0f7a4_29 wcb267 ?_
  refine J_rand C dJ6_bitCount_0f7a4_32 ?_
  refine J_istore_n C dJ6_bitCount_0f7a4_33 rfl (by decide) rfl ?_
  refine J_iload_n C dJ6_bitCount_0f7a4_34 rfl 0 rfl ?_
  refine J_iload_n C dJ6_bitCount_0f7a4_35 rfl 0 rfl ?_
  refine J_bipush C dJ6_bitCount_0f7a4_36 (by decide) ?_
  refine J_rushr C dJ6_bitCount_0f7a4_38 ?_
  refine J_radd C dJ6_bitCount_0f7a4_39 ?_
  refine J_istore_n C dJ6_bitCount_0f7a4_40 rfl (by decide) rfl ?_
  refine J_iload_n C dJ6_bitCount_0f7a4_41 rfl 0 rfl ?_
  refine J_iload_n C dJ6_bitCount_0f7a4_42 rfl 0 rfl ?_
  refine J_bipush C dJ6_bitCount_0f7a4_43 (by decide) ?_
  refine J_rushr C dJ6_bitCount_0f7a4_45 ?_
  refine J_radd C dJ6_bitCount_0f7a4_46 ?_
  refine J_istore_n C dJ6_bitCount_0f7a4_47 rfl (by decide) rfl ?_
  refine J_iload_n C dJ6_bitCount_0f7a4_48 rfl 0 rfl ?_
  refine J_bipush C dJ6_bitCount_0f7a4_49 (by decide) ?_
  refine J_rand C dJ6_bitCount_0f7a4_51 ?_
  show JJ F E 0 0 s 52 [(0, _)] [.int (bcI (jI x))]
  rw [show bcI (jI x) = jI (jBit x) from (jI_of _).symm]
  exact J_iret C (Nat.zero_le _) (Nat.zero_le _) dJ6_bitCount_0f7a4_52 (by rw [hF]; exact ⟨_, rfl, rgI_of _, ⟨rfl, rfl⟩, rfl⟩)
section JDKB
variable {F : FT} {E : ET} {cc : ByteArray} {own : String} {ret : Option FieldType} {rm : Room} {ml c0 s0 : Nat} {σ : Sg} {pc : Nat} {lv : List (Nat × Value)} {st : List Value}
theorem K_bitCount (C : Cx F E cc own ret rm ml) {x : Int} {index : Nat} (hl : Cond.methodLink own index yJ6_bitCount_0f7a4 ∈ lw_gt) (hR : 1 ≤ rm.frames ∧ 20 ≤ rm.locals) (hW : (st.map fun v => v.category).sum ≤ 8) (hcs : c0 ≤ rm.cells ∧ s0 ≤ rm.slots) (d : decode cc pc = .ok (.invokestatic index, 3)) (kk : rgI (jBit x) → JJ F E c0 s0 σ (pc + 3) lv (.int (jI (jBit x)) :: st)) : JJ F E c0 s0 σ pc lv (.int (jI x) :: st) :=
  J_S C ct_bit ck_bit hl wst_bit ⟨rfl, rfl⟩ ⟨hR.1, hR.2⟩ hcs (As := [.int (jI x)]) (rest := st) rfl rfl hW d (J_pI (fun r hr he => by
    rw [he] at hr ⊢
    exact kk hr))
end JDKB
/-! String's length and charAt -/
section JDKS
variable {F : FT} {E : ET} {cc : ByteArray} {own : String} {ret : Option FieldType} {rm : Room} {ml c0 s0 : Nat} {σ : Sg} {pc : Nat} {lv : List (Nat × Value)} {st : List Value}
theorem kn_S (h : KnE E (fs F)) : vk_S 3 lenJ bytJ (fun i => ea E i) (fun i => ea E (3 + i)) (fun a => eb E ≤ a + 1) (fs F) (fs F).heap := h.2.1.2.2.2.1
/-- a call on a string -/
theorem J_VS {y : MethodName} {cy : ByteArray} {mlc n index i : Nat} {rc : Option FieldType} {rmc : Room} {rq : Option Value → Sg → Prop} {As rest st0 : List Value} (C : Cx F E cc own ret rm ml) (hi3 : i < 3) (hcls : y.cls = "java/lang/String") (hM : MetE (fl F) E y cy mlc rc rmc σ (.ref (ea E i) :: As) rq) (ck : CkE y cy mlc rc n) (hl : Cond.methodLink own index y ∈ lw_gt) (hi : Cond.instanceMethod y ∈ lw_gt) (hse : Cond.selects y.cls y y ∈ lw_gt)
    (hz : rmc.cells = 0 ∧ rmc.slots = 0) (hR : rmc.frames + 1 ≤ rm.frames ∧ 8 + (mlc + 11) + rmc.locals ≤ rm.locals) (hcs : c0 ≤ rm.cells ∧ s0 ≤ rm.slots) (hn : As.length = n) (hst : st0 = As.reverse ++ .ref (ea E i) :: rest) (hW : (rest.map fun v => v.category).sum ≤ 8)
    (d : decode cc pc = .ok (.invokevirtual index, 3)) (kk : ∀ v σ', rq v σ' → JJ F E c0 s0 σ' (pc + 3) lv (v.toList ++ rest)) : JJ F E c0 s0 σ pc lv st0 := by
  refine J_run (mc := 0) (ms := 0) (rest := rest) (rq := rq) (av := (Value.ref (ea E i) :: As).toArray) C.rg C.rg (fun H locs ls h1 h2 h3 => ?_) kk
  have hrec := vk_recv (i := i) ((kn_S C.kn).narrow C.lo) hi3 h2
  rw [← hcls] at hrec
  exact va_runV (As := As) (rest := rest) (nL := fn F) ⟨C.hx, C.hb, C.hml, C.ho, C.ht⟩ hM ⟨C.callB ck hl hz hR, C.ht _ hi, C.ht _ hse⟩ ⟨fun a U g mk h => ⟨h.1, h.2.calling⟩, hrec, fun U hU hW => ⟨rfl, C.kn.to h2 C.lo hW hU, by rw [hU]; exact h1⟩⟩ rfl hn h3.1 hst (lv_room hW) d (by rw [C.hR]; exact hcs)
theorem J_getv (C : Cx F E cc own ret rm ml) {i index : Nat} (hi3 : i < 3) (hl : Cond.fieldLink own index "java/lang/String" "value" "[B" ∈ lw_gt) (d : decode cc pc = .ok (.getfield index, 3)) (kk : JJ F E c0 s0 σ (pc + 3) lv (.ref (ea E (3 + i)) :: st)) : JJ F E c0 s0 σ pc lv (.ref (ea E i) :: st) := fun H locs ls h1 h2 h3 =>
  vk_getf C.hx C.hb (((kn_S C.kn).narrow C.lo).1 i hi3).2.2.1 h2 C.ho (C.ht _ hl) (fun _ z => z) d (kk H locs ls h1 h2 h3)
theorem J_getc (C : Cx F E cc own ret rm ml) {i index : Nat} (hi3 : i < 3) (hl : Cond.fieldLink own index "java/lang/String" "coder" "B" ∈ lw_gt) (d : decode cc pc = .ok (.getfield index, 3)) (kk : JJ F E c0 s0 σ (pc + 3) lv (.int (jI 0) :: st)) : JJ F E c0 s0 σ pc lv (.ref (ea E i) :: st) := fun H locs ls h1 h2 h3 =>
  vk_getf C.hx C.hb (((kn_S C.kn).narrow C.lo).1 i hi3).2.1 h2 C.ho (C.ht _ hl) (fun _ z => z) d (kk H locs ls h1 h2 h3)
theorem J_slen (C : Cx F E cc own ret rm ml) {i : Nat} (hi3 : i < 3) (d : decode cc pc = .ok (.arraylength, 1)) (kk : JJ F E c0 s0 σ (pc + 1) lv (.int (jI (strL i)) :: st)) : JJ F E c0 s0 σ pc lv (.ref (ea E (3 + i)) :: st) := fun H locs ls h1 h2 h3 =>
  va_tlen C.hx C.hb (((kn_S C.kn).narrow C.lo).1 i hi3).2.2.2 h2 (v := jI (strL i)) rfl d (kk H locs ls h1 h2 h3)
theorem J_sbyte (C : Cx F E cc own ret rm ml) {i : Nat} (hi3 : i < 3) {k : Int} (k0 : 0 ≤ k) (k1 : k < strL i) (d : decode cc pc = .ok (.baload, 1)) (kk : JJ F E c0 s0 σ (pc + 1) lv (.int (jI (strC i k)) :: st)) : JJ F E c0 s0 σ pc lv (.int (jI k) :: .ref (ea E (3 + i)) :: st) := fun H locs ls h1 h2 h3 => by
  have hn : lenJ.getD i 0 < 2147483648 := by
    rcases i with _ | _ | _ | i
    · decide
    · decide
    · decide
    · omega
  have hr : rgI k := by unfold strL at k1; exact ⟨by omega, by omega⟩
  refine va_tb C.hx C.hb (((kn_S C.kn).narrow C.lo).1 i hi3).2.2.2 h2 (jI_in (n := lenJ.getD i 0) hn k0 k1) (v := .int (jI (strC i k))) ?_ d (kk H locs ls h1 h2 h3)
  show Value.int ((bytJ.getD i []).getD (jI k).toNatClampNeg 0) = Value.int (jI (strC i k))
  rw [jI_clamp hr]
  unfold strC
  rw [jI_of]
theorem J_ri2c (C : Cx F E cc own ret rm ml) {x v : Int32} (hv : (x.toUInt32 % 65536).toInt32 = v) (d : decode cc pc = .ok (.i2c, 1)) (k : JJ F E c0 s0 σ (pc + 1) lv (.int v :: st)) : JJ F E c0 s0 σ pc lv (.int x :: st) := fun H locs ls h1 h2 h3 => lv_i2c C.hx C.hb d hv (k H locs ls h1 h2 h3)
theorem J_rishr (C : Cx F E cc own ret rm ml) {x y : Int32} (d : decode cc pc = .ok (.ishr, 1)) (k : JJ F E c0 s0 σ (pc + 1) lv (.int (x >>> (y &&& 31)) :: st)) : JJ F E c0 s0 σ pc lv (.int y :: .int x :: st) := fun H locs ls h1 h2 h3 => lv_ishr C.hx C.hb d (k H locs ls h1 h2 h3)
end JDKS
theorem wsf_38 : Cond.fieldLink RJ0 38 "java/lang/String" "COMPACT_STRINGS" "Z" ∈ lw_gt := gt_in (List.mem_append_right _ (List.mem_of_getElem? (i := 666) (by decide +kernel))) rfl
theorem wsf_9 : Cond.fieldLink RJ0 9 "java/lang/String" "value" "[B" ∈ lw_gt := gt_in (List.mem_append_right _ (List.mem_of_getElem? (i := 738) (by decide +kernel))) rfl
theorem wsf_15 : Cond.fieldLink RJ0 15 "java/lang/String" "coder" "B" ∈ lw_gt := gt_in (List.mem_append_right _ (List.mem_of_getElem? (i := 739) (by decide +kernel))) rfl
theorem wsf_1053 : Cond.fieldLink RJ0 1053 "jdk/internal/util/Preconditions" "SIOOBE_FORMATTER" "Ljava/util/function/BiFunction;" ∈ lw_gt := gt_in (List.mem_append_right _ (List.mem_of_getElem? (i := 682) (by decide +kernel))) rfl
theorem wsm_335 : Cond.methodLink RJ0 335 yJ0_coder_7d493 ∈ lw_gt := gt_in (List.mem_append_right _ (List.mem_of_getElem? (i := 662) (by decide +kernel))) rfl
theorem wsm_492 : Cond.methodLink RJ0 492 yJ0_isLatin1_aae02 ∈ lw_gt := gt_in (List.mem_append_right _ (List.mem_of_getElem? (i := 672) (by decide +kernel))) rfl
theorem wsm_495 : Cond.methodLink RJ0 495 yJ1_charAt_3b067 ∈ lw_gt := gt_in (List.mem_append_right _ (List.mem_of_getElem? (i := 676) (by decide +kernel))) rfl
theorem wsm_9 : Cond.methodLink RJ1 9 yJ0_checkIndex_df160 ∈ lw_gt := gt_in (List.mem_append_right _ (List.mem_of_getElem? (i := 679) (by decide +kernel))) rfl
theorem wsm_1059 : Cond.methodLink RJ0 1059 yJ3_checkIndex_8e157 ∈ lw_gt := gt_in (List.mem_append_right _ (List.mem_of_getElem? (i := 684) (by decide +kernel))) rfl
theorem wsi_len : Cond.instanceMethod yJ0_length_8abf5 ∈ lw_gt := gt_in (List.mem_append_right _ (List.mem_of_getElem? (i := 659) (by decide +kernel))) rfl
theorem wss_len : Cond.selects yJ0_length_8abf5.cls yJ0_length_8abf5 yJ0_length_8abf5 ∈ lw_gt := gt_in (List.mem_append_right _ (List.mem_of_getElem? (i := 660) (by decide +kernel))) rfl
theorem wsi_cod : Cond.instanceMethod yJ0_coder_7d493 ∈ lw_gt := gt_in (List.mem_append_right _ (List.mem_of_getElem? (i := 663) (by decide +kernel))) rfl
theorem wss_cod : Cond.selects yJ0_coder_7d493.cls yJ0_coder_7d493 yJ0_coder_7d493 ∈ lw_gt := gt_in (List.mem_append_right _ (List.mem_of_getElem? (i := 664) (by decide +kernel))) rfl
theorem wsi_chr : Cond.instanceMethod yJ0_charAt_5068e ∈ lw_gt := gt_in (List.mem_append_right _ (List.mem_of_getElem? (i := 669) (by decide +kernel))) rfl
theorem wss_chr : Cond.selects yJ0_charAt_5068e.cls yJ0_charAt_5068e yJ0_charAt_5068e ∈ lw_gt := gt_in (List.mem_append_right _ (List.mem_of_getElem? (i := 670) (by decide +kernel))) rfl
theorem wsi_lat : Cond.instanceMethod yJ0_isLatin1_aae02 ∈ lw_gt := gt_in (List.mem_append_right _ (List.mem_of_getElem? (i := 673) (by decide +kernel))) rfl
theorem wss_lat : Cond.selects yJ0_isLatin1_aae02.cls yJ0_isLatin1_aae02 yJ0_isLatin1_aae02 ∈ lw_gt := gt_in (List.mem_append_right _ (List.mem_of_getElem? (i := 674) (by decide +kernel))) rfl
theorem wst_l1 : Cond.static yJ1_charAt_3b067 ∈ lw_gt := gt_in (List.mem_append_right _ (List.mem_of_getElem? (i := 677) (by decide +kernel))) rfl
theorem wst_ci : Cond.static yJ0_checkIndex_df160 ∈ lw_gt := gt_in (List.mem_append_right _ (List.mem_of_getElem? (i := 680) (by decide +kernel))) rfl
theorem wst_pc : Cond.static yJ3_checkIndex_8e157 ∈ lw_gt := gt_in (List.mem_append_right _ (List.mem_of_getElem? (i := 685) (by decide +kernel))) rfl
theorem ck_len : CkE yJ0_length_8abf5 cJ0_length_8abf5 1 (some .int) 0 := ⟨gt_in (List.mem_append_right _ (List.mem_of_getElem? (i := 661) (by decide +kernel))) rfl, gt_in (List.mem_append_right _ (List.mem_of_getElem? (i := 13) (by decide +kernel))) rfl, by decide +kernel⟩
theorem ck_cod : CkE yJ0_coder_7d493 cJ0_coder_7d493 1 (some .byte) 0 := ⟨gt_in (List.mem_append_right _ (List.mem_of_getElem? (i := 665) (by decide +kernel))) rfl, gt_in (List.mem_append_right _ (List.mem_of_getElem? (i := 13) (by decide +kernel))) rfl, by decide +kernel⟩
theorem ck_chr : CkE yJ0_charAt_5068e cJ0_charAt_5068e 2 (some .char) 1 := ⟨gt_in (List.mem_append_right _ (List.mem_of_getElem? (i := 671) (by decide +kernel))) rfl, gt_in (List.mem_append_right _ (List.mem_of_getElem? (i := 13) (by decide +kernel))) rfl, by decide +kernel⟩
theorem ck_lat : CkE yJ0_isLatin1_aae02 cJ0_isLatin1_aae02 1 (some .boolean) 0 := ⟨gt_in (List.mem_append_right _ (List.mem_of_getElem? (i := 675) (by decide +kernel))) rfl, gt_in (List.mem_append_right _ (List.mem_of_getElem? (i := 13) (by decide +kernel))) rfl, by decide +kernel⟩
theorem ck_l1 : CkE yJ1_charAt_3b067 cJ1_charAt_3b067 2 (some .char) 2 := ⟨gt_in (List.mem_append_right _ (List.mem_of_getElem? (i := 678) (by decide +kernel))) rfl, gt_in (List.mem_append_right _ (List.mem_of_getElem? (i := 14) (by decide +kernel))) rfl, by decide +kernel⟩
theorem ck_ci : CkE yJ0_checkIndex_df160 cJ0_checkIndex_df160 2 none 2 := ⟨gt_in (List.mem_append_right _ (List.mem_of_getElem? (i := 681) (by decide +kernel))) rfl, gt_in (List.mem_append_right _ (List.mem_of_getElem? (i := 13) (by decide +kernel))) rfl, by decide +kernel⟩
theorem ck_pc : CkE yJ3_checkIndex_8e157 cJ3_checkIndex_8e157 3 (some .int) 3 := ⟨gt_in (List.mem_append_right _ (List.mem_of_getElem? (i := 686) (by decide +kernel))) rfl, gt_in (List.mem_append_right _ (List.mem_of_getElem? (i := 15) (by decide +kernel))) rfl, by decide +kernel⟩
abbrev rm_str0 : Room := { frames := 0, cells := 0, slots := 0, locals := 0 }
abbrev rm_len : Room := { frames := 1, cells := 0, slots := 0, locals := 20 }
abbrev rm_ci : Room := { frames := 1, cells := 0, slots := 0, locals := 22 }
abbrev rm_l1 : Room := { frames := 2, cells := 0, slots := 0, locals := 43 }
abbrev rm_chr : Room := { frames := 3, cells := 0, slots := 0, locals := 64 }
theorem ct_cod {l : Launch} {E : ET} {s : Sg} {i : Nat} (hi : i < 3) : MetE l E yJ0_coder_7d493 cJ0_coder_7d493 1 (some .byte) rm_str0 s [.ref (ea E i)] (qI (fun r t => r = 0 ∧ t = s) (gN s)) := by
  refine MetJ (by decide +kernel) (Nat.le_of_ble_eq_true rfl) ?_
  intro F hl C hF
  subst hl
  show JJ F E 0 0 s 0 [(0, .ref (ea E i))] []
  refine J_gets C (fun k => k.2.1.2.2.2.2.1) wsf_38 dJ0_coder_7d493_0 ?_
  show JJ F E 0 0 s 3 [(0, .ref (ea E i))] [.int (jI 1)]
  refine J_if_eq C ⟨by decide, by decide⟩ (tgt := 13) dJ0_coder_7d493_3 (by decide) (fun z => absurd z (by decide)) (fun _ => ?_)
  refine J_aload_n C dJ0_coder_7d493_6 rfl 0 rfl ?_
  refine J_getc C hi wsf_15 dJ0_coder_7d493_7 ?_
  refine J_goto C (tgt := 14) dJ0_coder_7d493_10 (by decide) ?_
  exact J_zret C (Nat.zero_le _) (Nat.zero_le _) rfl dJ0_coder_7d493_14 (by rw [hF]; exact ⟨_, rfl, rgI_0, ⟨rfl, rfl⟩, rfl⟩)
theorem ct_lat {l : Launch} {E : ET} {s : Sg} {i : Nat} (hi : i < 3) : MetE l E yJ0_isLatin1_aae02 cJ0_isLatin1_aae02 1 (some .boolean) rm_str0 s [.ref (ea E i)] (qI (fun r t => r = 1 ∧ t = s) (gN s)) := by
  refine MetJ (by decide +kernel) (Nat.le_of_ble_eq_true rfl) ?_
  intro F hl C hF
  subst hl
  show JJ F E 0 0 s 0 [(0, .ref (ea E i))] []
  refine J_gets C (fun k => k.2.1.2.2.2.2.1) wsf_38 dJ0_isLatin1_aae02_0 ?_
  show JJ F E 0 0 s 3 [(0, .ref (ea E i))] [.int (jI 1)]
  refine J_if_eq C ⟨by decide, by decide⟩ (tgt := 17) dJ0_isLatin1_aae02_3 (by decide) (fun z => absurd z (by decide)) (fun _ => ?_)
  refine J_aload_n C dJ0_isLatin1_aae02_6 rfl 0 rfl ?_
  refine J_getc C hi wsf_15 dJ0_isLatin1_aae02_7 ?_
  refine J_if_ne C rgI_0 (tgt := 17) dJ0_isLatin1_aae02_10 (by decide) (fun z => absurd rfl z) (fun _ => ?_)
  refine J_iconst C dJ0_isLatin1_aae02_13 ?_
  refine J_goto C (tgt := 18) dJ0_isLatin1_aae02_14 (by decide) ?_
  exact J_zret C (Nat.zero_le _) (Nat.zero_le _) (nar_z (Or.inr rfl)) dJ0_isLatin1_aae02_18 (by rw [hF]; exact ⟨_, rfl, ⟨by decide, by decide⟩, ⟨rfl, rfl⟩, rfl⟩)
theorem ct_pc {l : Launch} {E : ET} {s : Sg} {k n : Int} {w : Value} (hw : w = .null ∨ ∃ t, w = .ref t) (hk : rgI k) (hn : rgI n) (k0 : 0 ≤ k) (k1 : k < n) : MetE l E yJ3_checkIndex_8e157 cJ3_checkIndex_8e157 3 (some .int) rm_str0 s [.int (jI k), .int (jI n), w] (qI (fun r t => r = k ∧ t = s) (gN s)) := by
  have key : ∀ F, fl F = l → Cx F E cJ3_checkIndex_8e157 yJ3_checkIndex_8e157.cls (some .int) rm_str0 3 → fq F = qI (fun r t => r = k ∧ t = s) (gN s) → ∀ lv : List (Nat × Value), lv[0]? = some (0, .int (jI k)) → lv[1]? = some (1, .int (jI n)) → JJ F E 0 0 s 0 lv [] := by
    intro F hl C hF lv l0 l1
    refine J_iload_n C dJ3_checkIndex_8e157_0 rfl 0 l0 ?_
    refine J_if_lt C hk (tgt := 9) dJ3_checkIndex_8e157_1 (by decide) (fun z => absurd z (by omega)) (fun _ => ?_)
    refine J_iload_n C dJ3_checkIndex_8e157_4 rfl 0 l0 ?_
    refine J_iload_n C dJ3_checkIndex_8e157_5 rfl 1 l1 ?_
    refine J_icmp_lt C hk hn (tgt := 16) dJ3_checkIndex_8e157_6 (by decide) (fun _ => ?_) (fun z => absurd k1 z)
    refine J_iload_n C dJ3_checkIndex_8e157_16 rfl 0 l0 ?_
    exact J_iret C (Nat.zero_le _) (Nat.zero_le _) dJ3_checkIndex_8e157_17 (by rw [hF]; exact ⟨_, rfl, hk, ⟨rfl, rfl⟩, rfl⟩)
  rcases hw with rfl | ⟨t, rfl⟩
  · refine MetJ (by decide +kernel) (Nat.le_of_ble_eq_true rfl) ?_
    intro F hl C hF
    exact key F hl C hF _ rfl rfl
  · refine MetJ (by decide +kernel) (Nat.le_of_ble_eq_true rfl) ?_
    intro F hl C hF
    exact key F hl C hF _ rfl rfl
theorem ct_ci {l : Launch} {E : ET} {s : Sg} {k n : Int} (hk : rgI k) (hn : rgI n) (k0 : 0 ≤ k) (k1 : k < n) : MetE l E yJ0_checkIndex_df160 cJ0_checkIndex_df160 2 none rm_ci s [.int (jI k), .int (jI n)] (qV (fun t => t = s) (gN s)) := by
  refine MetJ (by decide +kernel) (Nat.le_of_ble_eq_true rfl) ?_
  intro F hl C hF
  subst hl
  show JJ F E 0 0 s 0 [(0, .int (jI k)), (1, .int (jI n))] []
  refine J_iload_n C dJ0_checkIndex_df160_0 rfl 0 rfl ?_
  refine J_iload_n C dJ0_checkIndex_df160_1 rfl 1 rfl ?_
  have go : ∀ w : Value, (w = .null ∨ ∃ t, w = .ref t) → JJ F E 0 0 s 5 [(0, .int (jI k)), (1, .int (jI n))] [w, .int (jI n), .int (jI k)] := fun w hw => by
    refine J_S C (ct_pc hw hk hn k0 k1) ck_pc wsm_1059 wst_pc ⟨rfl, rfl⟩ (by decide) (by decide) (As := [.int (jI k), .int (jI n), w]) (rest := []) rfl rfl (Nat.le_of_ble_eq_true rfl) dJ0_checkIndex_df160_5 (J_pI (fun r hr he => ?_))
    refine J_pop C dJ0_checkIndex_df160_8 rfl ?_
    exact J_vret C (Nat.zero_le _) (Nat.zero_le _) dJ0_checkIndex_df160_9 (by rw [hF]; exact ⟨rfl, rfl, rfl⟩)
  rcases C.kn.2.1.2.2.2.2.2.1 with hz | ⟨t, hz⟩
  · exact J_gets C (fun _ => hz) wsf_1053 dJ0_checkIndex_df160_2 (go _ (Or.inl rfl))
  · exact J_gets C (fun _ => hz) wsf_1053 dJ0_checkIndex_df160_2 (go _ (Or.inr ⟨t, rfl⟩))
theorem strC_and {i : Nat} (hi : i < 3) {k : Int} (k0 : 0 ≤ k) (k1 : k < strL i) : jI (strC i k) &&& jI 255 = jI (strC i k) ∧ ((jI (strC i k)).toUInt32 % 65536).toInt32 = jI (strC i k) ∧ narrow .char (.int (jI (strC i k))) = .int (jI (strC i k)) := by
  have key : ∀ a : Nat, a < 3 → ∀ b : Nat, b < lenJ.getD a 0 → jI (strC a (b : Int)) &&& jI 255 = jI (strC a (b : Int)) ∧ ((jI (strC a (b : Int))).toUInt32 % 65536).toInt32 = jI (strC a (b : Int)) := by decide +kernel
  have key2 : ∀ x : Int32, (x.toUInt32 % 65536).toInt32 = x → narrow .char (.int x) = .int x := fun x hx => by
    show Value.int ((x.toUInt32 % 65536).toInt32) = _
    rw [hx]
  have := key i hi k.toNat (by unfold strL at k1; omega)
  rw [show ((k.toNat : Nat) : Int) = k by omega] at this
  exact ⟨this.1, this.2, key2 _ this.2⟩
theorem ct_l1 {l : Launch} {E : ET} {s : Sg} {i : Nat} (hi : i < 3) {k : Int} (k0 : 0 ≤ k) (k1 : k < strL i) : MetE l E yJ1_charAt_3b067 cJ1_charAt_3b067 2 (some .char) rm_l1 s [.ref (ea E (3 + i)), .int (jI k)] (qI (fun r t => r = strC i k ∧ t = s) (gN s)) := by
  have hr := strL_rg i
  have hk : rgI k := ⟨by omega, by have := hr.2; omega⟩
  have hc := strC_and hi k0 k1
  refine MetJ (by decide +kernel) (Nat.le_of_ble_eq_true rfl) ?_
  intro F hl C hF
  subst hl
  show JJ F E 0 0 s 0 [(0, .ref (ea E (3 + i))), (1, .int (jI k))] []
  refine J_iload_n C dJ1_charAt_3b067_0 rfl 1 rfl ?_
  refine J_aload_n C dJ1_charAt_3b067_1 rfl 0 rfl ?_
  refine J_slen C hi dJ1_charAt_3b067_2 ?_
  refine J_S C (ct_ci hk hr k0 k1) ck_ci wsm_9 wst_ci ⟨rfl, rfl⟩ (by decide) (by decide) (As := [.int (jI k), .int (jI (strL i))]) (rest := []) rfl rfl (Nat.le_of_ble_eq_true rfl) dJ1_charAt_3b067_3 ?_
  rintro v σ' ⟨rfl, rfl, -⟩
  refine J_aload_n C dJ1_charAt_3b067_6 rfl 0 rfl ?_
  refine J_iload_n C dJ1_charAt_3b067_7 rfl 1 rfl ?_
  refine J_sbyte C hi k0 k1 dJ1_charAt_3b067_8 ?_
  refine J_sipush C dJ1_charAt_3b067_9 (by decide) ?_
  refine J_rand C dJ1_charAt_3b067_12 ?_
  rw [hc.1]
  refine J_ri2c C hc.2.1 dJ1_charAt_3b067_13 ?_
  exact J_zret C (Nat.zero_le _) (Nat.zero_le _) hc.2.2 dJ1_charAt_3b067_14 (by rw [hF]; exact ⟨_, rfl, strC_rg i k, ⟨rfl, rfl⟩, rfl⟩)
theorem ct_chr {l : Launch} {E : ET} {s : Sg} {i : Nat} (hi : i < 3) {k : Int} (k0 : 0 ≤ k) (k1 : k < strL i) : MetE l E yJ0_charAt_5068e cJ0_charAt_5068e 2 (some .char) rm_chr s [.ref (ea E i), .int (jI k)] (qI (fun r t => r = strC i k ∧ t = s) (gN s)) := by
  have hc := strC_and hi k0 k1
  refine MetJ (by decide +kernel) (Nat.le_of_ble_eq_true rfl) ?_
  intro F hl C hF
  subst hl
  show JJ F E 0 0 s 0 [(0, .ref (ea E i)), (1, .int (jI k))] []
  refine J_aload_n C dJ0_charAt_5068e_0 rfl 0 rfl ?_
  refine J_VS C hi rfl (ct_lat hi) ck_lat wsm_492 wsi_lat wss_lat ⟨rfl, rfl⟩ (by decide) (by decide) (As := []) (rest := []) rfl rfl (Nat.le_of_ble_eq_true rfl) dJ0_charAt_5068e_1 (J_pI (fun r hr he => ?_))
  subst he
  refine J_if_eq C hr (tgt := 16) dJ0_charAt_5068e_4 (by decide) (fun z => absurd z (by decide)) (fun _ => ?_)
  refine J_aload_n C dJ0_charAt_5068e_7 rfl 0 rfl ?_
  refine J_getv C hi wsf_9 dJ0_charAt_5068e_8 ?_
  refine J_iload_n C dJ0_charAt_5068e_11 rfl 1 rfl ?_
  refine J_S C (ct_l1 hi k0 k1) ck_l1 wsm_495 wst_l1 ⟨rfl, rfl⟩ (by decide) (by decide) (As := [.ref (ea E (3 + i)), .int (jI k)]) (rest := []) rfl rfl (Nat.le_of_ble_eq_true rfl) dJ0_charAt_5068e_12 (J_pI (fun r hr he => ?_))
  subst he
  exact J_zret C (Nat.zero_le _) (Nat.zero_le _) hc.2.2 dJ0_charAt_5068e_15 (by rw [hF]; exact ⟨_, rfl, hr, ⟨rfl, rfl⟩, rfl⟩)
theorem ct_len {l : Launch} {E : ET} {s : Sg} {i : Nat} (hi : i < 3) : MetE l E yJ0_length_8abf5 cJ0_length_8abf5 1 (some .int) rm_len s [.ref (ea E i)] (qI (fun r t => r = strL i ∧ t = s) (gN s)) := by
  refine MetJ (by decide +kernel) (Nat.le_of_ble_eq_true rfl) ?_
  intro F hl C hF
  subst hl
  show JJ F E 0 0 s 0 [(0, .ref (ea E i))] []
  refine J_aload_n C dJ0_length_8abf5_0 rfl 0 rfl ?_
  refine J_getv C hi wsf_9 dJ0_length_8abf5_1 ?_
  refine J_slen C hi dJ0_length_8abf5_4 ?_
  refine J_aload_n C dJ0_length_8abf5_5 rfl 0 rfl ?_
  refine J_VS C hi rfl (ct_cod hi) ck_cod wsm_335 wsi_cod wss_cod ⟨rfl, rfl⟩ (by decide) (by decide) (As := []) (rest := [.int (jI (strL i))]) rfl rfl (Nat.le_of_ble_eq_true rfl) dJ0_length_8abf5_6 (J_pI (fun r hr he => ?_))
  subst he
  refine J_rishr C dJ0_length_8abf5_9 ?_
  have e : jI (strL i) >>> (jI 0 &&& 31) = jI (strL i) := by
    have key : ∀ a : Nat, a < 3 → jI (strL a) >>> (jI 0 &&& 31) = jI (strL a) := by decide +kernel
    exact key i hi
  rw [e]
  exact J_iret C (Nat.zero_le _) (Nat.zero_le _) dJ0_length_8abf5_10 (by rw [hF]; exact ⟨_, rfl, strL_rg i, ⟨rfl, rfl⟩, rfl⟩)
section JDKT
variable {F : FT} {E : ET} {cc : ByteArray} {own : String} {ret : Option FieldType} {rm : Room} {ml c0 s0 : Nat} {σ : Sg} {pc : Nat} {lv : List (Nat × Value)} {st : List Value}
theorem K_strLen (C : Cx F E cc own ret rm ml) {i : Nat} (hi : i < 3) {index : Nat} (hl : Cond.methodLink own index yJ0_length_8abf5 ∈ lw_gt) (hR : 2 ≤ rm.frames ∧ 40 ≤ rm.locals) (hW : (st.map fun v => v.category).sum ≤ 8) (hcs : c0 ≤ rm.cells ∧ s0 ≤ rm.slots) (d : decode cc pc = .ok (.invokevirtual index, 3)) (kk : JJ F E c0 s0 σ (pc + 3) lv (.int (jI (strL i)) :: st)) : JJ F E c0 s0 σ pc lv (.ref (ea E i) :: st) :=
  J_VS C hi rfl (ct_len hi) ck_len hl wsi_len wss_len ⟨rfl, rfl⟩ ⟨hR.1, hR.2⟩ hcs (As := []) (rest := st) rfl rfl hW d (J_pI (fun r hr he => by
    subst he
    exact kk))
theorem K_charAt (C : Cx F E cc own ret rm ml) {i : Nat} (hi : i < 3) {k : Int} (g0 : 0 ≤ k) (g1 : k < strL i) {index : Nat} (hl : Cond.methodLink own index yJ0_charAt_5068e ∈ lw_gt) (hR : 4 ≤ rm.frames ∧ 86 ≤ rm.locals) (hW : (st.map fun v => v.category).sum ≤ 8) (hcs : c0 ≤ rm.cells ∧ s0 ≤ rm.slots) (d : decode cc pc = .ok (.invokevirtual index, 3)) (kk : JJ F E c0 s0 σ (pc + 3) lv (.int (jI (strC i k)) :: st)) : JJ F E c0 s0 σ pc lv (.int (jI k) :: .ref (ea E i) :: st) :=
  J_VS C hi rfl (ct_chr hi g0 g1) ck_chr hl wsi_chr wss_chr ⟨rfl, rfl⟩ ⟨hR.1, by have := hR.2; show 8 + (2 + 11) + 64 ≤ rm.locals; omega⟩ hcs (As := [.int (jI k)]) (rest := st) rfl rfl hW d (J_pI (fun r hr he => by
    subst he
    exact kk))
end JDKT
section JDK
variable {F : FT} {E : ET} {cc : ByteArray} {own : String} {ret : Option FieldType} {rm : Room} {ml c0 s0 : Nat} {σ : Sg} {pc : Nat} {lv : List (Nat × Value)} {st : List Value}
theorem J_getsN (C : Cx F E cc own ret rm ml) {Cn n de host : String} {v : Value} {index : Nat} (hZ : KnE E (fs F) → va_Z Cn n de v (fun a => eb E ≤ a + 1) (fs F) (fs F).heap) (hl : KnE E (fs F) → va_Nw (.fieldLinkNest own index Cn n de host) (fs F)) (d : decode cc pc = .ok (.getstatic index, 3)) (kk : JJ F E c0 s0 σ (pc + 3) lv (v :: st)) : JJ F E c0 s0 σ pc lv st := fun H locs ls h1 h2 h3 =>
  va_getsN C.hx C.hb ((hZ C.kn).narrow C.lo) h2 C.ho (va_Nw.use rfl (hl C.kn)) (fun _ z => z) d (kk H locs ls h1 h2 h3)
theorem J_ldcS0 (C : Cx F E cc "CutConformer$Part" ret rm ml) (d : decode cc pc = .ok (.ldc 44, 2)) (kk : JJ F E c0 s0 σ (pc + 2) lv (.ref (ea E 0) :: st)) : JJ F E c0 s0 σ pc lv st := fun H locs ls h1 h2 h3 => va_ldcS C.hx C.hb C.ho C.kn.2.2.1.1 d (kk H locs ls h1 h2 h3)
theorem J_ldcS1 (C : Cx F E cc "CutConformer$Part" ret rm ml) (d : decode cc pc = .ok (.ldc 50, 2)) (kk : JJ F E c0 s0 σ (pc + 2) lv (.ref (ea E 1) :: st)) : JJ F E c0 s0 σ pc lv st := fun H locs ls h1 h2 h3 => va_ldcS C.hx C.hb C.ho C.kn.2.2.1.2.1 d (kk H locs ls h1 h2 h3)
theorem J_ldcS2 (C : Cx F E cc "CutConformer$Part" ret rm ml) (d : decode cc pc = .ok (.ldc 52, 2)) (kk : JJ F E c0 s0 σ (pc + 2) lv (.ref (ea E 2) :: st)) : JJ F E c0 s0 σ pc lv st := fun H locs ls h1 h2 h3 => va_ldcS C.hx C.hb C.ho C.kn.2.2.1.2.2.1 d (kk H locs ls h1 h2 h3)
theorem J_bitCount (C : Cx F E cc own ret rm ml) {x : Int} {index : Nat} (hl : Cond.methodLink own index yJ6_bitCount_0f7a4 ∈ lw_gt) (hR : 1 ≤ rm.frames ∧ 20 ≤ rm.locals) (hW : (st.map fun v => v.category).sum ≤ 8) (hcs : c0 ≤ rm.cells ∧ s0 ≤ rm.slots) (d : decode cc pc = .ok (.invokestatic index, 3)) (kk : rgI (jBit x) → JJ F E c0 s0 σ (pc + 3) lv (.int (jI (jBit x)) :: st)) : JJ F E c0 s0 σ pc lv (.int (jI x) :: st) :=
  K_bitCount C hl hR hW hcs d kk
theorem J_strLen (C : Cx F E cc own ret rm ml) {i : Nat} (hi : i < 3) {index : Nat} (hl : Cond.methodLink own index yJ0_length_8abf5 ∈ lw_gt) (hR : 2 ≤ rm.frames ∧ 40 ≤ rm.locals) (hW : (st.map fun v => v.category).sum ≤ 8) (hcs : c0 ≤ rm.cells ∧ s0 ≤ rm.slots) (d : decode cc pc = .ok (.invokevirtual index, 3)) (kk : JJ F E c0 s0 σ (pc + 3) lv (.int (jI (strL i)) :: st)) : JJ F E c0 s0 σ pc lv (.ref (ea E i) :: st) :=
  K_strLen C hi hl hR hW hcs d kk
theorem J_charAt (C : Cx F E cc own ret rm ml) {i : Nat} (hi : i < 3) {k : Int} (g0 : 0 ≤ k) (g1 : k < strL i) {index : Nat} (hl : Cond.methodLink own index yJ0_charAt_5068e ∈ lw_gt) (hR : 4 ≤ rm.frames ∧ 86 ≤ rm.locals) (hW : (st.map fun v => v.category).sum ≤ 8) (hcs : c0 ≤ rm.cells ∧ s0 ≤ rm.slots) (d : decode cc pc = .ok (.invokevirtual index, 3)) (kk : JJ F E c0 s0 σ (pc + 3) lv (.int (jI (strC i k)) :: st)) : JJ F E c0 s0 σ pc lv (.int (jI k) :: .ref (ea E i) :: st) :=
  K_charAt C hi g0 g1 hl hR hW hcs d kk
end JDK
