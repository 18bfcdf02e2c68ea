/-! THE ROWS: an instruction at a time, over the pure state -/
abbrev FT : Type := Program × Launch × Env × Room × State × MethodId × Array Value × List Frame × Method × Code × Nat × Nat × (Nat → Prop) × Nat × (Option Value → Sg → Prop)
abbrev fp (F : FT) : Program := F.1
abbrev fl (F : FT) : Launch := F.2.1
abbrev fe (F : FT) : Env := F.2.2.1
abbrev fR (F : FT) : Room := F.2.2.2.1
abbrev fs (F : FT) : State := F.2.2.2.2.1
abbrev fm (F : FT) : MethodId := F.2.2.2.2.2.1
abbrev fa (F : FT) : Array Value := F.2.2.2.2.2.2.1
abbrev fb (F : FT) : List Frame := F.2.2.2.2.2.2.2.1
abbrev fme (F : FT) : Method := F.2.2.2.2.2.2.2.2.1
abbrev fc (F : FT) : Code := F.2.2.2.2.2.2.2.2.2.1
abbrev fmc (F : FT) : Nat := F.2.2.2.2.2.2.2.2.2.2.1
abbrev fms (F : FT) : Nat := F.2.2.2.2.2.2.2.2.2.2.2.1
abbrev fA (F : FT) : Nat → Prop := F.2.2.2.2.2.2.2.2.2.2.2.2.1
abbrev fn (F : FT) : Nat := F.2.2.2.2.2.2.2.2.2.2.2.2.2.1
abbrev fq (F : FT) : Option Value → Sg → Prop := F.2.2.2.2.2.2.2.2.2.2.2.2.2.2
/-- a method's end: what it answers, the numbers then, and that nothing but its own was written -/
def Qcc (E : ET) (A : Nat → Prop) (rq : Option Value → Sg → Prop) (n : Nat) : Array Value → State → Outcome → State → Prop := fun _ st oc t => (∃ v σ', oc = .returned v ∧ rq v σ' ∧ RepE E σ' t.heap) ∧ va_F A st t ∧ t.heap.size ≤ st.heap.size + n
abbrev Wq (F : FT) (Q : State → Prop) (H : Heap) (locs : List Loc) (c0 s0 : Nat) (g : JFrame) : Prop := W (fp F) (fl F) (fe F) (fR F) (fs F) (fm F) (fa F) (fb F) (fme F) (fc F) H locs c0 s0 Q g
/-- the machine at pc, with these locals and this stack and these numbers in the heap, comes to Q -/
def JQ (F : FT) (E : ET) (Q : State → Prop) (c0 s0 : Nat) (σ : Sg) (pc : Nat) (lv : List (Nat × Value)) (st : List Value) : Prop :=
  ∀ (H : Heap) (locs : List Loc) (ls : Array Slot), RepE E σ H → va_S (fA F) (fs F).heap H locs → lv_has ls (fn F) lv → Wq F Q H locs c0 s0 (F0 (fm F) pc ls st)
/-- .. to the method's end; what it hands back is told in the words of E0 -/
abbrev JJ (F : FT) (E : ET) (c0 s0 : Nat) (σ : Sg) (pc : Nat) (lv : List (Nat × Value)) (st : List Value) : Prop := JQ F E (MQ (fb F) (Qcc E (fA F) (fq F) (fmc F)) (fa F) (fs F) (fmc F) (fms F) (fA F)) c0 s0 σ pc lv st
def Cx (F : FT) (E : ET) (cc : ByteArray) (own : String) (ret : Option FieldType) (rm : Room) (ml : Nat) : Prop :=
  (fp F).tables.exec = Jvm.exec ∧ (fc F).code = cc ∧ (fc F).maxLocals = fn F ∧ (fs F).vm.findClass own = some (fm F).cls ∧ (∀ w ∈ lw_gt, w.before (fa F) (fs F) = true) ∧ (fme F).sig.returnType = ret ∧ (fme F).locks = false ∧ KnE E (fs F) ∧ (∀ a, rgA E a → fA F a) ∧ (∀ a, fA F a → eb E ≤ a + 1) ∧ fR F = rm ∧ fn F = ml
section ROWS
variable {F : FT} {E : ET} {QF : State → Prop} {cc : ByteArray} {own : String} {ret : Option FieldType} {rm : Room} {ml c0 s0 : Nat} {σ : Sg} {pc : Nat} {lv : List (Nat × Value)} {st : List Value}
theorem Cx.hx (C : Cx F E cc own ret rm ml) : (fp F).tables.exec = Jvm.exec := C.1
theorem Cx.hb (C : Cx F E cc own ret rm ml) : (fc F).code = cc := C.2.1
theorem Cx.hml (C : Cx F E cc own ret rm ml) : (fc F).maxLocals = fn F := C.2.2.1
theorem Cx.ho (C : Cx F E cc own ret rm ml) : (fs F).vm.findClass own = some (fm F).cls := C.2.2.2.1
theorem Cx.ht (C : Cx F E cc own ret rm ml) : ∀ w ∈ lw_gt, w.before (fa F) (fs F) = true := C.2.2.2.2.1
theorem Cx.hr (C : Cx F E cc own ret rm ml) : (fme F).sig.returnType = ret := C.2.2.2.2.2.1
theorem Cx.hlk (C : Cx F E cc own ret rm ml) : (fme F).locks = false := C.2.2.2.2.2.2.1
theorem Cx.kn (C : Cx F E cc own ret rm ml) : KnE E (fs F) := C.2.2.2.2.2.2.2.1
theorem Cx.rg (C : Cx F E cc own ret rm ml) : ∀ a, rgA E a → fA F a := C.2.2.2.2.2.2.2.2.1
theorem Cx.lo (C : Cx F E cc own ret rm ml) : ∀ a, fA F a → eb E ≤ a + 1 := C.2.2.2.2.2.2.2.2.2.1
theorem Cx.hR (C : Cx F E cc own ret rm ml) : fR F = rm := C.2.2.2.2.2.2.2.2.2.2.1
theorem Cx.hn (C : Cx F E cc own ret rm ml) : fn F = ml := C.2.2.2.2.2.2.2.2.2.2.2
/-- fewer locals, in another order -/
theorem J_sub (pls : List Nat) {lv' : List (Nat × Value)} (h : lv_pick lv pls = lv') (k : JQ F E QF c0 s0 σ pc lv' st) : JQ F E QF c0 s0 σ pc lv st := fun H locs ls h1 h2 h3 => k H locs ls h1 h2 (lv_sub h3 pls h)
theorem J_iconst (C : Cx F E cc own ret rm ml) {n : Int} (d : decode cc pc = .ok (.iconst n, 1)) (k : JQ F E QF c0 s0 σ (pc + 1) lv (.int (jI n) :: st)) : JQ F E QF c0 s0 σ pc lv st := fun H locs ls h1 h2 h3 => lv_iconst C.hx C.hb d rfl (k H locs ls h1 h2 h3)
theorem J_bipush (C : Cx F E cc own ret rm ml) {n : Int} (d : decode cc pc = .ok (.bipush n, 2)) (hv : (Int8.ofInt n).toInt32 = jI n) (k : JQ F E QF c0 s0 σ (pc + 2) lv (.int (jI n) :: st)) : JQ F E QF c0 s0 σ pc lv st := fun H locs ls h1 h2 h3 => lv_bipush C.hx C.hb d hv (k H locs ls h1 h2 h3)
theorem J_sipush (C : Cx F E cc own ret rm ml) {n : Int} (d : decode cc pc = .ok (.sipush n, 3)) (hv : (Int16.ofInt n).toInt32 = jI n) (k : JQ F E QF c0 s0 σ (pc + 3) lv (.int (jI n) :: st)) : JQ F E QF c0 s0 σ pc lv st := fun H locs ls h1 h2 h3 => lv_sipush C.hx C.hb d hv (k H locs ls h1 h2 h3)
theorem J_ldcI (C : Cx F E cc own ret rm ml) {n : Int} {ix : Nat} (d : decode cc pc = .ok (.ldc ix, 2)) (hw : Jvm.Cond.constant own ix (jI n) ∈ lw_gt) (k : JQ F E QF c0 s0 σ (pc + 2) lv (.int (jI n) :: st)) : JQ F E QF c0 s0 σ pc lv st := fun H locs ls h1 h2 h3 => lv_ldc C.hx C.hb C.ho (C.ht _ hw) d (k H locs ls h1 h2 h3)
theorem J_ldc2 (C : Cx F E cc own ret rm ml) {n : Int} {ix : Nat} (d : decode cc pc = .ok (.ldc2_w ix, 3)) (hw : Jvm.Cond.constantLong own ix (jL n) ∈ lw_gt) (k : JQ F E QF c0 s0 σ (pc + 3) lv (.long (jL n) :: st)) : JQ F E QF c0 s0 σ pc lv st := fun H locs ls h1 h2 h3 => lv_ldc2 C.hx C.hb C.ho (C.ht _ hw) d (k H locs ls h1 h2 h3)
theorem J_iload_n (C : Cx F E cc own ret rm ml) {kk : Fin 4} {i : Nat} {x : Int32} (d : decode cc pc = .ok (.iload_n kk, 1)) (hi : (kk : Nat) = i) (pl : Nat) (h : lv[pl]? = some (i, .int x)) (k : JQ F E QF c0 s0 σ (pc + 1) lv (.int x :: st)) : JQ F E QF c0 s0 σ pc lv st := fun H locs ls h1 h2 h3 => lv_iload_n C.hx C.hb d hi (lv_at h3 pl h) (k H locs ls h1 h2 h3)
theorem J_iload (C : Cx F E cc own ret rm ml) {i : Nat} {x : Int32} (d : decode cc pc = .ok (.iload i, 2)) (pl : Nat) (h : lv[pl]? = some (i, .int x)) (k : JQ F E QF c0 s0 σ (pc + 2) lv (.int x :: st)) : JQ F E QF c0 s0 σ pc lv st := fun H locs ls h1 h2 h3 => lv_iload C.hx C.hb d (lv_at h3 pl h) (k H locs ls h1 h2 h3)
theorem J_lload_n (C : Cx F E cc own ret rm ml) {kk : Fin 4} {i : Nat} {x : Int64} (d : decode cc pc = .ok (.lload_n kk, 1)) (hi : (kk : Nat) = i) (pl : Nat) (h : lv[pl]? = some (i, .long x)) (k : JQ F E QF c0 s0 σ (pc + 1) lv (.long x :: st)) : JQ F E QF c0 s0 σ pc lv st := fun H locs ls h1 h2 h3 => lv_lload_n C.hx C.hb d hi (lv_at h3 pl h) (k H locs ls h1 h2 h3)
theorem J_lload (C : Cx F E cc own ret rm ml) {i : Nat} {x : Int64} (d : decode cc pc = .ok (.lload i, 2)) (pl : Nat) (h : lv[pl]? = some (i, .long x)) (k : JQ F E QF c0 s0 σ (pc + 2) lv (.long x :: st)) : JQ F E QF c0 s0 σ pc lv st := fun H locs ls h1 h2 h3 => lv_lload C.hx C.hb d (lv_at h3 pl h) (k H locs ls h1 h2 h3)
theorem J_aload_n (C : Cx F E cc own ret rm ml) {kk : Fin 4} {i x : Nat} (d : decode cc pc = .ok (.aload_n kk, 1)) (hi : (kk : Nat) = i) (pl : Nat) (h : lv[pl]? = some (i, .ref x)) (k : JQ F E QF c0 s0 σ (pc + 1) lv (.ref x :: st)) : JQ F E QF c0 s0 σ pc lv st := fun H locs ls h1 h2 h3 => lv_aload_n C.hx C.hb d hi (lv_at h3 pl h) (k H locs ls h1 h2 h3)
theorem J_aload (C : Cx F E cc own ret rm ml) {i x : Nat} (d : decode cc pc = .ok (.aload i, 2)) (pl : Nat) (h : lv[pl]? = some (i, .ref x)) (k : JQ F E QF c0 s0 σ (pc + 2) lv (.ref x :: st)) : JQ F E QF c0 s0 σ pc lv st := fun H locs ls h1 h2 h3 => lv_aload C.hx C.hb d (lv_at h3 pl h) (k H locs ls h1 h2 h3)
theorem J_istore_n (C : Cx F E cc own ret rm ml) {kk : Fin 4} {i : Nat} {x : Int32} {lv' : List (Nat × Value)} (d : decode cc pc = .ok (.istore_n kk, 1)) (hi : (kk : Nat) = i) (hn : i < ml) (hl : (i, Value.int x) :: lv.filter (fun q => !(q.1 == i) && !(q.1 + 1 == i && q.2.category == 2)) = lv') (k : JQ F E QF c0 s0 σ (pc + 1) lv' st) : JQ F E QF c0 s0 σ pc lv (.int x :: st) := fun H locs ls h1 h2 h3 => lv_istore_n C.hx C.hb d hi h3 (by rw [C.hn]; exact hn) hl (fun ls' h' => k H locs ls' h1 h2 h')
theorem J_istore (C : Cx F E cc own ret rm ml) {i : Nat} {x : Int32} {lv' : List (Nat × Value)} (d : decode cc pc = .ok (.istore i, 2)) (hn : i < ml) (hl : (i, Value.int x) :: lv.filter (fun q => !(q.1 == i) && !(q.1 + 1 == i && q.2.category == 2)) = lv') (k : JQ F E QF c0 s0 σ (pc + 2) lv' st) : JQ F E QF c0 s0 σ pc lv (.int x :: st) := fun H locs ls h1 h2 h3 => lv_istore C.hx C.hb d h3 (by rw [C.hn]; exact hn) hl (fun ls' h' => k H locs ls' h1 h2 h')
theorem J_lstore_n (C : Cx F E cc own ret rm ml) {kk : Fin 4} {i : Nat} {x : Int64} {lv' : List (Nat × Value)} (d : decode cc pc = .ok (.lstore_n kk, 1)) (hi : (kk : Nat) = i) (hn : i + 1 < ml) (hl : (i, Value.long x) :: lv.filter (fun q => !(q.1 == i) && (!(q.1 == i + 1) && !(q.1 + 1 == i && q.2.category == 2))) = lv') (k : JQ F E QF c0 s0 σ (pc + 1) lv' st) : JQ F E QF c0 s0 σ pc lv (.long x :: st) := fun H locs ls h1 h2 h3 => lv_lstore_n C.hx C.hb d hi h3 (by rw [C.hn]; exact hn) hl (fun ls' h' => k H locs ls' h1 h2 h')
theorem J_lstore (C : Cx F E cc own ret rm ml) {i : Nat} {x : Int64} {lv' : List (Nat × Value)} (d : decode cc pc = .ok (.lstore i, 2)) (hn : i + 1 < ml) (hl : (i, Value.long x) :: lv.filter (fun q => !(q.1 == i) && (!(q.1 == i + 1) && !(q.1 + 1 == i && q.2.category == 2))) = lv') (k : JQ F E QF c0 s0 σ (pc + 2) lv' st) : JQ F E QF c0 s0 σ pc lv (.long x :: st) := fun H locs ls h1 h2 h3 => lv_lstore C.hx C.hb d h3 (by rw [C.hn]; exact hn) hl (fun ls' h' => k H locs ls' h1 h2 h')
theorem J_astore_n (C : Cx F E cc own ret rm ml) {kk : Fin 4} {i x : Nat} {lv' : List (Nat × Value)} (d : decode cc pc = .ok (.astore_n kk, 1)) (hi : (kk : Nat) = i) (hn : i < ml) (hl : (i, Value.ref x) :: lv.filter (fun q => !(q.1 == i) && !(q.1 + 1 == i && q.2.category == 2)) = lv') (k : JQ F E QF c0 s0 σ (pc + 1) lv' st) : JQ F E QF c0 s0 σ pc lv (.ref x :: st) := fun H locs ls h1 h2 h3 => lv_astore_n C.hx C.hb d hi h3 (by rw [C.hn]; exact hn) hl (fun ls' h' => k H locs ls' h1 h2 h')
theorem J_astore (C : Cx F E cc own ret rm ml) {i x : Nat} {lv' : List (Nat × Value)} (d : decode cc pc = .ok (.astore i, 2)) (hn : i < ml) (hl : (i, Value.ref x) :: lv.filter (fun q => !(q.1 == i) && !(q.1 + 1 == i && q.2.category == 2)) = lv') (k : JQ F E QF c0 s0 σ (pc + 2) lv' st) : JQ F E QF c0 s0 σ pc lv (.ref x :: st) := fun H locs ls h1 h2 h3 => lv_astore C.hx C.hb d h3 (by rw [C.hn]; exact hn) hl (fun ls' h' => k H locs ls' h1 h2 h')
theorem J_iinc (C : Cx F E cc own ret rm ml) {i : Nat} {n x : Int} {lv' : List (Nat × Value)} (d : decode cc pc = .ok (.iinc i n, 3)) (pl : Nat) (h : lv[pl]? = some (i, .int (jI x))) (hn : i < ml) (hl : (i, Value.int (jI (x + n))) :: lv.filter (fun q => !(q.1 == i) && !(q.1 + 1 == i && q.2.category == 2)) = lv') (k : JQ F E QF c0 s0 σ (pc + 3) lv' st) : JQ F E QF c0 s0 σ pc lv st := fun H locs ls h1 h2 h3 => lv_iinc C.hx C.hb d h3 h (jI_add x n) (by rw [C.hn]; exact hn) hl (fun ls' h' => k H locs ls' h1 h2 h')
theorem J_dup (C : Cx F E cc own ret rm ml) {va : Value} (d : decode cc pc = .ok (.dup, 1)) (hc : va.category = 1) (k : JQ F E QF c0 s0 σ (pc + 1) lv (va :: va :: st)) : JQ F E QF c0 s0 σ pc lv (va :: st) := fun H locs ls h1 h2 h3 => lv_dup C.hx C.hb d hc (k H locs ls h1 h2 h3)
theorem J_dup2 (C : Cx F E cc own ret rm ml) {va vb : Value} (d : decode cc pc = .ok (.dup2, 1)) (hc : va.category = 1) (hc2 : vb.category = 1) (k : JQ F E QF c0 s0 σ (pc + 1) lv (va :: vb :: va :: vb :: st)) : JQ F E QF c0 s0 σ pc lv (va :: vb :: st) := fun H locs ls h1 h2 h3 => lv_dup2_11 C.hx C.hb d hc hc2 (k H locs ls h1 h2 h3)
theorem J_pop (C : Cx F E cc own ret rm ml) {va : Value} (d : decode cc pc = .ok (.pop, 1)) (hc : va.category = 1) (k : JQ F E QF c0 s0 σ (pc + 1) lv st) : JQ F E QF c0 s0 σ pc lv (va :: st) := fun H locs ls h1 h2 h3 => lv_pop C.hx C.hb d hc (k H locs ls h1 h2 h3)
theorem J_iadd (C : Cx F E cc own ret rm ml) {x y : Int} (d : decode cc pc = .ok (.iadd, 1)) (k : JQ F E QF c0 s0 σ (pc + 1) lv (.int (jI (x + y)) :: st)) : JQ F E QF c0 s0 σ pc lv (.int (jI y) :: .int (jI x) :: st) := fun H locs ls h1 h2 h3 => lv_iadd C.hx C.hb d (by rw [jI_add]; exact k H locs ls h1 h2 h3)
theorem J_isub (C : Cx F E cc own ret rm ml) {x y : Int} (d : decode cc pc = .ok (.isub, 1)) (k : JQ F E QF c0 s0 σ (pc + 1) lv (.int (jI (x - y)) :: st)) : JQ F E QF c0 s0 σ pc lv (.int (jI y) :: .int (jI x) :: st) := fun H locs ls h1 h2 h3 => lv_isub C.hx C.hb d (by rw [jI_sub]; exact k H locs ls h1 h2 h3)
theorem J_imul (C : Cx F E cc own ret rm ml) {x y : Int} (d : decode cc pc = .ok (.imul, 1)) (k : JQ F E QF c0 s0 σ (pc + 1) lv (.int (jI (x * y)) :: st)) : JQ F E QF c0 s0 σ pc lv (.int (jI y) :: .int (jI x) :: st) := fun H locs ls h1 h2 h3 => lv_imul C.hx C.hb d (by rw [jI_mul]; exact k H locs ls h1 h2 h3)
theorem J_iand (C : Cx F E cc own ret rm ml) {x y : Int} (d : decode cc pc = .ok (.iand, 1)) (k : JQ F E QF c0 s0 σ (pc + 1) lv (.int (jI (jAnd x y)) :: st)) : JQ F E QF c0 s0 σ pc lv (.int (jI y) :: .int (jI x) :: st) := fun H locs ls h1 h2 h3 => lv_iand C.hx C.hb d (by rw [jI_and]; exact k H locs ls h1 h2 h3)
theorem J_ior (C : Cx F E cc own ret rm ml) {x y : Int} (d : decode cc pc = .ok (.ior, 1)) (k : JQ F E QF c0 s0 σ (pc + 1) lv (.int (jI (jOr x y)) :: st)) : JQ F E QF c0 s0 σ pc lv (.int (jI y) :: .int (jI x) :: st) := fun H locs ls h1 h2 h3 => lv_ior C.hx C.hb d (by rw [jI_or]; exact k H locs ls h1 h2 h3)
theorem J_ishl (C : Cx F E cc own ret rm ml) {x y : Int} (d : decode cc pc = .ok (.ishl, 1)) (k : JQ F E QF c0 s0 σ (pc + 1) lv (.int (jI (jShl x y)) :: st)) : JQ F E QF c0 s0 σ pc lv (.int (jI y) :: .int (jI x) :: st) := fun H locs ls h1 h2 h3 => lv_ishl C.hx C.hb d (by rw [jI_shl]; exact k H locs ls h1 h2 h3)
theorem J_ishr (C : Cx F E cc own ret rm ml) {x y : Int} (d : decode cc pc = .ok (.ishr, 1)) (k : JQ F E QF c0 s0 σ (pc + 1) lv (.int (jI (jShr x y)) :: st)) : JQ F E QF c0 s0 σ pc lv (.int (jI y) :: .int (jI x) :: st) := fun H locs ls h1 h2 h3 => lv_ishr C.hx C.hb d (by rw [jI_shr]; exact k H locs ls h1 h2 h3)
theorem jI_ne0 {y : Int} (hy : rgI y) (h : y ≠ 0) : ¬ jI y = 0 := fun z => h ((jI_eq hy rgI_0).mp z)
theorem J_idiv (C : Cx F E cc own ret rm ml) {x y : Int} (hx : rgI x) (hy : rgI y) (h0 : y ≠ 0) (d : decode cc pc = .ok (.idiv, 1)) (k : JQ F E QF c0 s0 σ (pc + 1) lv (.int (jI (x.tdiv y)) :: st)) : JQ F E QF c0 s0 σ pc lv (.int (jI y) :: .int (jI x) :: st) := fun H locs ls h1 h2 h3 => lv_idiv C.hx C.hb d (jI_ne0 hy h0) (by rw [jI_div hx hy]; exact k H locs ls h1 h2 h3)
theorem J_irem (C : Cx F E cc own ret rm ml) {x y : Int} (hx : rgI x) (hy : rgI y) (h0 : y ≠ 0) (d : decode cc pc = .ok (.irem, 1)) (k : JQ F E QF c0 s0 σ (pc + 1) lv (.int (jI (x.tmod y)) :: st)) : JQ F E QF c0 s0 σ pc lv (.int (jI y) :: .int (jI x) :: st) := fun H locs ls h1 h2 h3 => lv_irem C.hx C.hb d (jI_ne0 hy h0) (by rw [jI_rem hx hy]; exact k H locs ls h1 h2 h3)
theorem J_i2l (C : Cx F E cc own ret rm ml) {x : Int} (hx : rgI x) (d : decode cc pc = .ok (.i2l, 1)) (k : JQ F E QF c0 s0 σ (pc + 1) lv (.long (jL x) :: st)) : JQ F E QF c0 s0 σ pc lv (.int (jI x) :: st) := fun H locs ls h1 h2 h3 => lv_i2l C.hx C.hb d (jI_i2l hx) (k H locs ls h1 h2 h3)
theorem J_i2b (C : Cx F E cc own ret rm ml) {x : Int} (hx : -128 ≤ x ∧ x ≤ 127) (d : decode cc pc = .ok (.i2b, 1)) (k : JQ F E QF c0 s0 σ (pc + 1) lv (.int (jI x) :: st)) : JQ F E QF c0 s0 σ pc lv (.int (jI x) :: st) := fun H locs ls h1 h2 h3 => lv_i2b C.hx C.hb d (jI_byte hx.1 hx.2) (k H locs ls h1 h2 h3)
theorem J_ladd (C : Cx F E cc own ret rm ml) {x y : Int} (d : decode cc pc = .ok (.ladd, 1)) (k : JQ F E QF c0 s0 σ (pc + 1) lv (.long (jL (x + y)) :: st)) : JQ F E QF c0 s0 σ pc lv (.long (jL y) :: .long (jL x) :: st) := fun H locs ls h1 h2 h3 => lv_ladd C.hx C.hb d (by rw [jL_add]; exact k H locs ls h1 h2 h3)
theorem J_lmul (C : Cx F E cc own ret rm ml) {x y : Int} (d : decode cc pc = .ok (.lmul, 1)) (k : JQ F E QF c0 s0 σ (pc + 1) lv (.long (jL (x * y)) :: st)) : JQ F E QF c0 s0 σ pc lv (.long (jL y) :: .long (jL x) :: st) := fun H locs ls h1 h2 h3 => lv_lmul C.hx C.hb d (by rw [jL_mul]; exact k H locs ls h1 h2 h3)
theorem J_goto (C : Cx F E cc own ret rm ml) {off : Int} {tgt : Nat} (d : decode cc pc = .ok (.goto off, 3)) (ht : (pc : Int) + off = (tgt : Int)) (k : JQ F E QF c0 s0 σ tgt lv st) : JQ F E QF c0 s0 σ pc lv st := fun H locs ls h1 h2 h3 => lv_goto C.hx C.hb d ht (k H locs ls h1 h2 h3)
theorem J_icmp_eq (C : Cx F E cc own ret rm ml) {x y : Int} (hx : rgI x) (hy : rgI y) {off : Int} {tgt : Nat} (d : decode cc pc = .ok (.if_icmp .eq off, 3)) (ht : (pc : Int) + off = (tgt : Int)) (kt : x = y → JQ F E QF c0 s0 σ tgt lv st) (kf : ¬ x = y → JQ F E QF c0 s0 σ (pc + 3) lv st) : JQ F E QF c0 s0 σ pc lv (.int (jI y) :: .int (jI x) :: st) := fun H locs ls h1 h2 h3 => lv_icmp_eq C.hx C.hb d ht (fun q => kt ((jI_eq hx hy).mp q) H locs ls h1 h2 h3) (fun q => kf (fun z => q ((jI_eq hx hy).mpr z)) H locs ls h1 h2 h3)
theorem J_icmp_ne (C : Cx F E cc own ret rm ml) {x y : Int} (hx : rgI x) (hy : rgI y) {off : Int} {tgt : Nat} (d : decode cc pc = .ok (.if_icmp .ne off, 3)) (ht : (pc : Int) + off = (tgt : Int)) (kt : ¬ x = y → JQ F E QF c0 s0 σ tgt lv st) (kf : x = y → JQ F E QF c0 s0 σ (pc + 3) lv st) : JQ F E QF c0 s0 σ pc lv (.int (jI y) :: .int (jI x) :: st) := fun H locs ls h1 h2 h3 => lv_icmp_ne C.hx C.hb d ht (fun q => kt (fun z => q ((jI_eq hx hy).mpr z)) H locs ls h1 h2 h3) (fun q => kf ((jI_eq hx hy).mp q) H locs ls h1 h2 h3)
theorem J_icmp_lt (C : Cx F E cc own ret rm ml) {x y : Int} (hx : rgI x) (hy : rgI y) {off : Int} {tgt : Nat} (d : decode cc pc = .ok (.if_icmp .lt off, 3)) (ht : (pc : Int) + off = (tgt : Int)) (kt : x < y → JQ F E QF c0 s0 σ tgt lv st) (kf : ¬ x < y → JQ F E QF c0 s0 σ (pc + 3) lv st) : JQ F E QF c0 s0 σ pc lv (.int (jI y) :: .int (jI x) :: st) := fun H locs ls h1 h2 h3 => lv_icmp_lt C.hx C.hb d ht (fun q => kt ((jI_lt hx hy).mp q) H locs ls h1 h2 h3) (fun q => kf (fun z => q ((jI_lt hx hy).mpr z)) H locs ls h1 h2 h3)
theorem J_icmp_ge (C : Cx F E cc own ret rm ml) {x y : Int} (hx : rgI x) (hy : rgI y) {off : Int} {tgt : Nat} (d : decode cc pc = .ok (.if_icmp .ge off, 3)) (ht : (pc : Int) + off = (tgt : Int)) (kt : y ≤ x → JQ F E QF c0 s0 σ tgt lv st) (kf : ¬ y ≤ x → JQ F E QF c0 s0 σ (pc + 3) lv st) : JQ F E QF c0 s0 σ pc lv (.int (jI y) :: .int (jI x) :: st) := fun H locs ls h1 h2 h3 => lv_icmp_ge C.hx C.hb d ht (fun q => kt ((jI_le hy hx).mp q) H locs ls h1 h2 h3) (fun q => kf (fun z => q ((jI_le hy hx).mpr z)) H locs ls h1 h2 h3)
theorem J_icmp_gt (C : Cx F E cc own ret rm ml) {x y : Int} (hx : rgI x) (hy : rgI y) {off : Int} {tgt : Nat} (d : decode cc pc = .ok (.if_icmp .gt off, 3)) (ht : (pc : Int) + off = (tgt : Int)) (kt : y < x → JQ F E QF c0 s0 σ tgt lv st) (kf : ¬ y < x → JQ F E QF c0 s0 σ (pc + 3) lv st) : JQ F E QF c0 s0 σ pc lv (.int (jI y) :: .int (jI x) :: st) := fun H locs ls h1 h2 h3 => lv_icmp_gt C.hx C.hb d ht (fun q => kt ((jI_lt hy hx).mp q) H locs ls h1 h2 h3) (fun q => kf (fun z => q ((jI_lt hy hx).mpr z)) H locs ls h1 h2 h3)
theorem J_icmp_le (C : Cx F E cc own ret rm ml) {x y : Int} (hx : rgI x) (hy : rgI y) {off : Int} {tgt : Nat} (d : decode cc pc = .ok (.if_icmp .le off, 3)) (ht : (pc : Int) + off = (tgt : Int)) (kt : x ≤ y → JQ F E QF c0 s0 σ tgt lv st) (kf : ¬ x ≤ y → JQ F E QF c0 s0 σ (pc + 3) lv st) : JQ F E QF c0 s0 σ pc lv (.int (jI y) :: .int (jI x) :: st) := fun H locs ls h1 h2 h3 => lv_icmp_le C.hx C.hb d ht (fun q => kt ((jI_le hx hy).mp q) H locs ls h1 h2 h3) (fun q => kf (fun z => q ((jI_le hx hy).mpr z)) H locs ls h1 h2 h3)
theorem J_if_eq (C : Cx F E cc own ret rm ml) {x : Int} (hx : rgI x) {off : Int} {tgt : Nat} (d : decode cc pc = .ok (.ifCond .eq off, 3)) (ht : (pc : Int) + off = (tgt : Int)) (kt : x = 0 → JQ F E QF c0 s0 σ tgt lv st) (kf : ¬ x = 0 → JQ F E QF c0 s0 σ (pc + 3) lv st) : JQ F E QF c0 s0 σ pc lv (.int (jI x) :: st) := fun H locs ls h1 h2 h3 => lv_if_eq C.hx C.hb d ht (fun q => kt ((jI_eq hx rgI_0).mp q) H locs ls h1 h2 h3) (fun q => kf (fun z => q ((jI_eq hx rgI_0).mpr z)) H locs ls h1 h2 h3)
theorem J_if_ne (C : Cx F E cc own ret rm ml) {x : Int} (hx : rgI x) {off : Int} {tgt : Nat} (d : decode cc pc = .ok (.ifCond .ne off, 3)) (ht : (pc : Int) + off = (tgt : Int)) (kt : ¬ x = 0 → JQ F E QF c0 s0 σ tgt lv st) (kf : x = 0 → JQ F E QF c0 s0 σ (pc + 3) lv st) : JQ F E QF c0 s0 σ pc lv (.int (jI x) :: st) := fun H locs ls h1 h2 h3 => lv_if_ne C.hx C.hb d ht (fun q => kt (fun z => q ((jI_eq hx rgI_0).mpr z)) H locs ls h1 h2 h3) (fun q => kf ((jI_eq hx rgI_0).mp q) H locs ls h1 h2 h3)
theorem J_if_lt (C : Cx F E cc own ret rm ml) {x : Int} (hx : rgI x) {off : Int} {tgt : Nat} (d : decode cc pc = .ok (.ifCond .lt off, 3)) (ht : (pc : Int) + off = (tgt : Int)) (kt : x < 0 → JQ F E QF c0 s0 σ tgt lv st) (kf : ¬ x < 0 → JQ F E QF c0 s0 σ (pc + 3) lv st) : JQ F E QF c0 s0 σ pc lv (.int (jI x) :: st) := fun H locs ls h1 h2 h3 => lv_if_lt C.hx C.hb d ht (fun q => kt ((jI_lt hx rgI_0).mp q) H locs ls h1 h2 h3) (fun q => kf (fun z => q ((jI_lt hx rgI_0).mpr z)) H locs ls h1 h2 h3)
theorem J_if_ge (C : Cx F E cc own ret rm ml) {x : Int} (hx : rgI x) {off : Int} {tgt : Nat} (d : decode cc pc = .ok (.ifCond .ge off, 3)) (ht : (pc : Int) + off = (tgt : Int)) (kt : 0 ≤ x → JQ F E QF c0 s0 σ tgt lv st) (kf : ¬ 0 ≤ x → JQ F E QF c0 s0 σ (pc + 3) lv st) : JQ F E QF c0 s0 σ pc lv (.int (jI x) :: st) := fun H locs ls h1 h2 h3 => lv_if_ge C.hx C.hb d ht (fun q => kt ((jI_le rgI_0 hx).mp q) H locs ls h1 h2 h3) (fun q => kf (fun z => q ((jI_le rgI_0 hx).mpr z)) H locs ls h1 h2 h3)
theorem J_if_gt (C : Cx F E cc own ret rm ml) {x : Int} (hx : rgI x) {off : Int} {tgt : Nat} (d : decode cc pc = .ok (.ifCond .gt off, 3)) (ht : (pc : Int) + off = (tgt : Int)) (kt : 0 < x → JQ F E QF c0 s0 σ tgt lv st) (kf : ¬ 0 < x → JQ F E QF c0 s0 σ (pc + 3) lv st) : JQ F E QF c0 s0 σ pc lv (.int (jI x) :: st) := fun H locs ls h1 h2 h3 => lv_if_gt C.hx C.hb d ht (fun q => kt ((jI_lt rgI_0 hx).mp q) H locs ls h1 h2 h3) (fun q => kf (fun z => q ((jI_lt rgI_0 hx).mpr z)) H locs ls h1 h2 h3)
theorem J_if_le (C : Cx F E cc own ret rm ml) {x : Int} (hx : rgI x) {off : Int} {tgt : Nat} (d : decode cc pc = .ok (.ifCond .le off, 3)) (ht : (pc : Int) + off = (tgt : Int)) (kt : x ≤ 0 → JQ F E QF c0 s0 σ tgt lv st) (kf : ¬ x ≤ 0 → JQ F E QF c0 s0 σ (pc + 3) lv st) : JQ F E QF c0 s0 σ pc lv (.int (jI x) :: st) := fun H locs ls h1 h2 h3 => lv_if_le C.hx C.hb d ht (fun q => kt ((jI_le hx rgI_0).mp q) H locs ls h1 h2 h3) (fun q => kf (fun z => q ((jI_le hx rgI_0).mpr z)) H locs ls h1 h2 h3)
theorem J_tswOut (C : Cx F E cc own ret rm ml) {x : Int} (hx : rgI x) {dflt lo hi : Int} {offs : Array Int} {len tgt : Nat} (d : decode cc pc = .ok (.tableswitch dflt lo hi offs, len)) (h : x < lo ∨ hi < x) (ht : (pc : Int) + dflt = (tgt : Int)) (k : JQ F E QF c0 s0 σ tgt lv st) : JQ F E QF c0 s0 σ pc lv (.int (jI x) :: st) := fun H locs ls h1 h2 h3 => lv_tableOut C.hx C.hb d (by rw [jI_toInt hx]; exact h) ht (k H locs ls h1 h2 h3)
theorem J_tswIn (C : Cx F E cc own ret rm ml) {x v : Int} (hv : x = v) (hr : rgI v) {dflt lo hi off : Int} {offs : Array Int} {len tgt : Nat} (d : decode cc pc = .ok (.tableswitch dflt lo hi offs, len)) (g1 : ¬ v < lo) (g2 : ¬ hi < v) (ho : offs[(v - lo).toNat]? = some off) (ht : (pc : Int) + off = (tgt : Int)) (k : JQ F E QF c0 s0 σ tgt lv st) : JQ F E QF c0 s0 σ pc lv (.int (jI x) :: st) := fun H locs ls h1 h2 h3 => by
  subst hv
  exact lv_tableIn C.hx C.hb d (by rw [jI_toInt hr]; exact g1) (by rw [jI_toInt hr]; exact g2) (by rw [jI_toInt hr]; exact ho) ht (k H locs ls h1 h2 h3)
theorem RepE.one {H : Heap} (h : RepE E σ H) {q : Nat} (hq : dmE E σ q) : va_P (eD E) vwCl [(adE E q, clE E σ q)] H := fun k p hp => by
  cases k with
  | zero => cases hp; exact h.1 q hq
  | succ k => simp at hp
theorem J_get (C : Cx F E cc own ret rm ml) {q : Nat} (hq : dmE E σ q) {ci N index : Nat} {fs : List Value} {Cn : String} {T : u_T} (hcl : clE E σ q = .inr (ci, fs)) (hc : vwCl[ci]? = some (Cn, T, N)) (hin : ∀ w ∈ u_ws Cn T N, w ∈ lw_gt) (k : Nat) (hk : k < N) (hl : Cond.fieldLink own index (T k).1 (T k).2.1 (T k).2.2.1 ∈ lw_gt) {v : Value} (hv : fs[k]? = some v) (d : decode cc pc = .ok (.getfield index, 3)) (kk : WtE σ → JQ F E QF c0 s0 σ (pc + 3) lv (v :: st)) : JQ F E QF c0 s0 σ pc lv (.ref (adE E q) :: st) := fun H locs ls h1 h2 h3 =>
  va_get C.hx C.hb C.ht hin C.ho C.kn.1 (h1.one hq) 0 (by rw [hcl]; rfl) hc k hk (C.ht _ hl) (fun _ z => z) hv d (kk h1.2.1 H locs ls h1 h2 h3)
theorem J_put (C : Cx F E cc own ret rm ml) {q : Nat} (hw : wrE E q) {σ' : Sg} {ci N index : Nat} {fs : List Value} {Cn : String} {T : u_T} {k : Nat} {v : Value} {ty : FieldType} (hcl : clE E σ q = .inr (ci, fs)) (hcl' : clE E σ' q = .inr (ci, fs.set k v)) (hc : vwCl[ci]? = some (Cn, T, N)) (hin : ∀ w ∈ u_ws Cn T N, w ∈ lw_gt) (ty0 : Nat → FieldType) (hty : ∀ k, k < N → parseFieldDescriptor (T k).2.2.1 = some (ty0 k)) (hnm : ∀ a, a < N → ∀ b, b < N → a ≠ b → (T a).2.1 ≠ (T b).2.1) (hk : k < N) (hl : Cond.fieldLink own index (T k).1 (T k).2.1 (T k).2.2.1 ∈ lw_gt) (hfin : (T k).2.2.2 = false) (hd : parseFieldDescriptor (T k).2.2.1 = some ty) (hnv : narrow ty v = v) (hft : fits ty v = true) (hlen : k < fs.length)
    (gn : gN σ' = gN σ) (g1 : ∀ p, p ≠ q → ∀ j, gI σ' p j = gI σ p j) (g2 : ∀ p, p ≠ q → ∀ j, gR σ' p j = gR σ p j) (g3 : ∀ p, p ≠ q → gL σ' p = gL σ p) (gw : WtE σ → WtE σ')
    (d : decode cc pc = .ok (.putfield index, 3)) (kk : JQ F E QF c0 s0 σ' (pc + 3) lv st) : JQ F E QF c0 s0 σ pc lv (v :: .ref (adE E q) :: st) := by
  intro H locs ls h1 h2 h3
  have hap := va_apart (own := own) C.ht hin ty0 hty hnm C.kn.1 hc
  have hat := h1.1 q (wrE_dm hw)
  rw [hcl] at hat
  obtain ⟨r, e1, cell, q1, q2, q3, q4⟩ := hat
  have hr : r = (Cn, T, N) := Option.some.inj (e1.symm.trans hc)
  subst hr
  obtain ⟨hS, hfc, kC, hkC, hkind⟩ := C.kn.1.1 ci _ hc
  obtain ⟨cf, kf, fi, f, hi, hsl⟩ := hS k hk
  have hlay := C.ht _ (hin _ (u_in_lay hk))
  unfold u_lay at hlay
  rw [if_neg (by rw [hfin]; decide)] at hlay
  have hst := (u_facts hfc hkC (u_lays C.ht hin hk) hi).1
  have h6 := u_store hfc hkC hkind hlay hi hd hnv hft
  refine W.putK C.hx C.hb (f := f) ⟨C.ho, C.ht _ hl, ⟨_, _, _, hi⟩, hst⟩ (by rw [q2]; exact h6) q1 q3 (by rw [hsl]; exact k2_hasslot (q4 k hk)) rfl rfl d fun H' e1 e2 e3 => ?_
  rw [hsl] at e1 ⊢
  refine kk H' _ ls (h1.put C.kn.2.2.2 (wrE_dm hw) gn e2 ?_ e3 g1 g2 g3 (gw h1.2.1)) (h2.put e2 e3 (C.rg _ (wrE_rg hw))) h3
  rw [hcl']
  exact ⟨_, hc, t_OB.to (V := updV (vp_V fs) k v) ⟨_, e1, q2, q3, t_set q4 hap hk v⟩ (fun j _ => vp_updV_set hlen v j)⟩
theorem J_putI (C : Cx F E cc own ret rm ml) {q : Nat} (hw : wrE E q) {j x : Int} {ci N index : Nat} {fs : List Value} {Cn : String} {T : u_T} {k : Nat} (hcl : clE E σ q = .inr (ci, fs)) (hcl' : clE E (sI σ q j x) q = .inr (ci, fs.set k (.int (jI x)))) (hc : vwCl[ci]? = some (Cn, T, N)) (hin : ∀ w ∈ u_ws Cn T N, w ∈ lw_gt) (ty0 : Nat → FieldType) (hty : ∀ k, k < N → parseFieldDescriptor (T k).2.2.1 = some (ty0 k)) (hnm : ∀ a, a < N → ∀ b, b < N → a ≠ b → (T a).2.1 ≠ (T b).2.1) (hk : k < N) (hl : Cond.fieldLink own index (T k).1 (T k).2.1 (T k).2.2.1 ∈ lw_gt) (hfin : (T k).2.2.2 = false) (hd : parseFieldDescriptor (T k).2.2.1 = some .int) (hlen : k < fs.length) (hx : rgI x)
    (d : decode cc pc = .ok (.putfield index, 3)) (kk : JQ F E QF c0 s0 (sI σ q j x) (pc + 3) lv st) : JQ F E QF c0 s0 σ pc lv (.int (jI x) :: .ref (adE E q) :: st) :=
  J_put C hw hcl hcl' hc hin ty0 hty hnm hk hl hfin hd rfl rfl hlen rfl (fun p hp j => gI_sI_ne hp) (fun _ _ _ => rfl) (fun _ _ => rfl) (fun h => h.sI q j hx) d kk
/-- a row of numbers -/
theorem J_iald (C : Cx F E cc own ret rm ml) {q n : Nat} (hq : dmE E σ q) (hcl : clE E σ q = .inl (ecI E, n, .inl (fun j => jI (gI σ q (j : Int))))) (hn : n < 2147483648) {x : Int} (g0 : 0 ≤ x) (g1 : x < (n : Int)) (d : decode cc pc = .ok (.iaload, 1)) (kk : rgI (gI σ q x) → JQ F E QF c0 s0 σ (pc + 1) lv (.int (jI (gI σ q x)) :: st)) : JQ F E QF c0 s0 σ pc lv (.int (jI x) :: .ref (adE E q) :: st) := fun H locs ls h1 h2 h3 => by
  refine va_iald C.hx C.hb C.kn.1 (h1.one hq) 0 0 (cA := ecI E) (n := n) (f := fun j => jI (gI σ q (j : Int))) (by rw [hcl]; rfl) rfl (jI_in hn g0 g1) d ?_
  have e : (((jI x).toNatClampNeg : Nat) : Int) = x := by
    rw [jI_clamp ⟨by omega, by omega⟩]
    omega
  show Wq F QF H locs c0 s0 (F0 (fm F) (pc + 1) ls (.int (jI (gI σ q (((jI x).toNatClampNeg : Nat) : Int))) :: st))
  rw [e]
  exact kk (h1.2.1.1 q x) H locs ls h1 h2 h3
theorem J_bald (C : Cx F E cc own ret rm ml) {q n : Nat} (hq : dmE E σ q) (hcl : clE E σ q = .inl (ecB E, n, .inl (fun j => jI (gI σ q (j : Int))))) (hn : n < 2147483648) {x : Int} (g0 : 0 ≤ x) (g1 : x < (n : Int)) (d : decode cc pc = .ok (.baload, 1)) (kk : rgI (gI σ q x) → JQ F E QF c0 s0 σ (pc + 1) lv (.int (jI (gI σ q x)) :: st)) : JQ F E QF c0 s0 σ pc lv (.int (jI x) :: .ref (adE E q) :: st) := fun H locs ls h1 h2 h3 => by
  refine va_bald C.hx C.hb C.kn.1 (h1.one hq) 0 1 (cA := ecB E) (n := n) (f := fun j => jI (gI σ q (j : Int))) (by rw [hcl]; rfl) rfl (jI_in hn g0 g1) d ?_
  have e : (((jI x).toNatClampNeg : Nat) : Int) = x := by
    rw [jI_clamp ⟨by omega, by omega⟩]
    omega
  show Wq F QF H locs c0 s0 (F0 (fm F) (pc + 1) ls (.int (jI (gI σ q (((jI x).toNatClampNeg : Nat) : Int))) :: st))
  rw [e]
  exact kk (h1.2.1.1 q x) H locs ls h1 h2 h3
theorem jI_upd {q : Nat} {x v : Int} (g0 : 0 ≤ x) (hr : rgI x) (σ : Sg) : (fun j : Nat => Value.int (jI (gI (sI σ q x v) q (j : Int)))) = updV (fun j : Nat => Value.int (jI (gI σ q (j : Int)))) (jI x).toNatClampNeg (.int (jI v)) := by
  funext j
  have e : (jI x).toNatClampNeg = x.toNat := jI_clamp hr
  rw [e]
  unfold updV
  rw [gI_sI]
  by_cases hj : j = x.toNat
  · rw [if_pos hj, if_pos ⟨rfl, by omega⟩]
  · rw [if_neg hj, if_neg (fun z => hj (by omega))]
theorem J_iast (C : Cx F E cc own ret rm ml) {q n : Nat} (hw : wrE E q) (hcl : ∀ σ : Sg, clE E σ q = .inl (ecI E, n, .inl (fun j => jI (gI σ q (j : Int))))) (hn : n < 2147483648) {x v : Int} (g0 : 0 ≤ x) (g1 : x < (n : Int)) (hv : rgI v) (d : decode cc pc = .ok (.iastore, 1)) (kk : JQ F E QF c0 s0 (sI σ q x v) (pc + 1) lv st) : JQ F E QF c0 s0 σ pc lv (.int (jI v) :: .int (jI x) :: .ref (adE E q) :: st) := by
  intro H locs ls h1 h2 h3
  have hat := h1.1 q (wrE_dm hw)
  rw [hcl] at hat
  have hin := jI_in hn g0 g1
  refine W.iast C.hx C.hb hat ((C.kn.1.2 0 _ rfl).1 n (fun j => .int (jI (gI σ q (j : Int))))) (fun z => by cases z) (by show ¬ (jI x < 0 ∨ (arrV _ _ _).slots.size ≤ _); rw [arrV_size]; exact hin) rfl rfl d fun H1 e z oq => ?_
  refine kk H1 _ ls (h1.put C.kn.2.2.2 (wrE_dm hw) rfl z ?_ oq (fun p hp j => gI_sI_ne hp) (fun _ _ _ => rfl) (fun _ _ => rfl) (h1.2.1.sI q x hv)) (h2.put z oq (C.rg _ (wrE_rg hw))) h3
  rw [hcl]
  show H1[adE E q]? = some (vp_cell _ _)
  rw [e, vp_cell_i, vp_cell_i, arrV_store]
  congr 2
  exact (jI_upd g0 ⟨by omega, by omega⟩ σ).symm
theorem J_bast (C : Cx F E cc own ret rm ml) {q n : Nat} (hw : wrE E q) (hcl : ∀ σ : Sg, clE E σ q = .inl (ecB E, n, .inl (fun j => jI (gI σ q (j : Int))))) (hn : n < 2147483648) {x v : Int} (g0 : 0 ≤ x) (g1 : x < (n : Int)) (hv : -128 ≤ v ∧ v ≤ 127) (d : decode cc pc = .ok (.bastore, 1)) (kk : JQ F E QF c0 s0 (sI σ q x v) (pc + 1) lv st) : JQ F E QF c0 s0 σ pc lv (.int (jI v) :: .int (jI x) :: .ref (adE E q) :: st) := by
  intro H locs ls h1 h2 h3
  have hat := h1.1 q (wrE_dm hw)
  rw [hcl] at hat
  have hin := jI_in hn g0 g1
  have hnr : narrow .byte (.int (jI v)) = .int (jI v) := congrArg Value.int (jI_byte hv.1 hv.2)
  refine W.bast C.hx C.hb hat ((C.kn.1.2 1 _ rfl).1 n (fun j => .int (jI (gI σ q (j : Int))))) (fun z => by cases z) (by show ¬ (jI x < 0 ∨ (arrV _ _ _).slots.size ≤ _); rw [arrV_size]; exact hin) rfl rfl d fun H1 e z oq => ?_
  rw [hnr] at e
  refine kk H1 _ ls (h1.put C.kn.2.2.2 (wrE_dm hw) rfl z ?_ oq (fun p hp j => gI_sI_ne hp) (fun _ _ _ => rfl) (fun _ _ => rfl) (h1.2.1.sI q x ⟨by omega, by omega⟩)) (h2.put z oq (C.rg _ (wrE_rg hw))) h3
  rw [hcl]
  show H1[adE E q]? = some (vp_cell _ _)
  rw [e, vp_cell_i, vp_cell_i, arrV_store]
  congr 2
  exact (jI_upd g0 ⟨by omega, by omega⟩ σ).symm
/-- a track's row of subtitles -/
theorem J_aald (C : Cx F E cc own ret rm ml) (hs : eS E = true) {q : Nat} (hk : kdO q = 13) {x : Int} (g0 : 0 ≤ x) (g1 : x < 16) (d : decode cc pc = .ok (.aaload, 1)) (kk : kdO (gR σ q x) = 14 → JQ F E QF c0 s0 σ (pc + 1) lv (.ref (adE E (gR σ q x)) :: st)) : JQ F E QF c0 s0 σ pc lv (.int (jI x) :: .ref (adE E q) :: st) := fun H locs ls h1 h2 h3 => by
  refine va_aldq C.hx C.hb C.kn.1 (h1.one (wrE_dm (wr_c hs (kdO_cls hk (by omega) (by omega) (by omega))))) 0 2 (cA := ecS E) (C := "CutConformer$Subtitle") (n := 16) (f := fun j => some (adE E (gR σ q (j : Int)))) (by rw [clE_k E σ hk]; rfl) rfl (jI_in (by decide) g0 g1) d ?_
  have e : (((jI x).toNatClampNeg : Nat) : Int) = x := by
    rw [jI_clamp ⟨by omega, by omega⟩]
    omega
  show Wq F QF H locs c0 s0 (F0 (fm F) (pc + 1) ls (.ref (adE E (gR σ q (((jI x).toNatClampNeg : Nat) : Int))) :: st))
  rw [e]
  exact kk ((h1.2.1.2.1 q x).1 hk) H locs ls h1 h2 h3
theorem J_aaldT (C : Cx F E cc own ret rm ml) (hs : eS E = true) {x : Int} (g0 : 0 ≤ x) (g1 : x < 8) (d : decode cc pc = .ok (.aaload, 1)) (kk : kdO (gR σ 62 x) = 5 → JQ F E QF c0 s0 σ (pc + 1) lv (.ref (adE E (gR σ 62 x)) :: st)) : JQ F E QF c0 s0 σ pc lv (.int (jI x) :: .ref (adE E 62) :: st) := fun H locs ls h1 h2 h3 => by
  have hk : kdO 62 = 17 := by decide
  refine va_aldq C.hx C.hb C.kn.1 (h1.one (wrE_dm (wr_c hs (by decide : 62 < 279)))) 0 3 (cA := ecT E) (C := "CutConformer$State") (n := 8) (f := fun j => some (adE E (gR σ 62 (j : Int)))) (by rw [clE_k E σ hk]; rfl) rfl (jI_in (by decide) g0 g1) d ?_
  have e : (((jI x).toNatClampNeg : Nat) : Int) = x := by
    rw [jI_clamp ⟨by omega, by omega⟩]
    omega
  show Wq F QF H locs c0 s0 (F0 (fm F) (pc + 1) ls (.ref (adE E (gR σ 62 (((jI x).toNatClampNeg : Nat) : Int))) :: st))
  rw [e]
  exact kk ((h1.2.1.2.1 62 x).2 hk) H locs ls h1 h2 h3
theorem J_aast (C : Cx F E cc own ret rm ml) (hs : eS E = true) {q v : Nat} (hk : kdO q = 13) (hv : kdO v = 14) {x : Int} (g0 : 0 ≤ x) (g1 : x < 16) (d : decode cc pc = .ok (.aastore, 1)) (kk : JQ F E QF c0 s0 (sR σ q x v) (pc + 1) lv st) : JQ F E QF c0 s0 σ pc lv (.ref (adE E v) :: .int (jI x) :: .ref (adE E q) :: st) := by
  intro H locs ls h1 h2 h3
  have hw : wrE E q := wr_c hs (kdO_cls hk (by omega) (by omega) (by omega))
  have hat := h1.1 q (wrE_dm hw)
  rw [clE_k E σ hk] at hat
  have hav := h1.1 v (wrE_dm (wr_c hs (kdO_cls hv (by omega) (by omega) (by omega))))
  rw [clE_k E σ hv] at hav
  obtain ⟨r', hr', cellV, y1, y2, y3, -⟩ := hav
  have hin := jI_in (n := 16) (by decide) g0 g1
  have hcls := (C.kn.1.1 6 _ rfl).2
  obtain ⟨kA, comp, k1, k2, k3, -⟩ := (C.kn.1.2 2 _ rfl).2
  have hcomp : comp = (eD E).1 6 := Option.some.inj (k3.symm.trans hcls.1)
  subst hcomp
  obtain ⟨kC, hkC, -⟩ := hcls.2
  refine W.aast C.hx C.hb hat (fun q h => by cases h) (fun h => by cases h) k1 k2 rfl hkC ⟨fun z => hin (Or.inl z), by show _ < (arrV _ _ _).slots.size; rw [arrV_size]; exact Nat.not_le.mp fun z => hin (Or.inr z)⟩ y1 (fun q h => by rw [y3] at h; cases h) (by rw [y2]; exact hkC) (by rw [y2]; exact va_assign hcls) rfl rfl d fun H1 e z oq => ?_
  refine kk H1 _ ls (h1.put C.kn.2.2.2 (wrE_dm hw) rfl z ?_ oq (fun _ _ _ => rfl) (fun p hp j => gR_sR_ne hp) (fun _ _ => rfl) (h1.2.1.sRow x hk hv)) (h2.put z oq (C.rg _ (wrE_rg hw))) h3
  rw [clE_k E _ hk]
  show H1[adE E q]? = some (vp_cell _ _)
  rw [e, vp_cell_q, vp_cell_q, arrV_store]
  congr 2
  funext j
  have ec : (jI x).toNatClampNeg = x.toNat := jI_clamp ⟨by omega, by omega⟩
  rw [ec]
  unfold updV
  rw [gR_sR]
  by_cases hj : j = x.toNat
  · rw [if_pos hj, if_pos ⟨rfl, by omega⟩]; rfl
  · rw [if_neg hj, if_neg (fun z => hj (by omega))]
theorem J_aastT (C : Cx F E cc own ret rm ml) (hs : eS E = true) {q v : Nat} (hk : kdO q = 17) (hv : kdO v = 5) {x : Int} (g0 : 0 ≤ x) (g1 : x < 8) (d : decode cc pc = .ok (.aastore, 1)) (kk : JQ F E QF c0 s0 (sR σ q x v) (pc + 1) lv st) : JQ F E QF c0 s0 σ pc lv (.ref (adE E v) :: .int (jI x) :: .ref (adE E q) :: st) := by
  intro H locs ls h1 h2 h3
  have hw : wrE E q := wr_c hs (kdO_cls hk (by omega) (by omega) (by omega))
  have hat := h1.1 q (wrE_dm hw)
  rw [clE_k E σ hk] at hat
  have hav := h1.1 v (wrE_dm (wr_c hs (kdO_cls hv (by omega) (by omega) (by omega))))
  rw [clE_k E σ hv] at hav
  obtain ⟨r', hr', cellV, y1, y2, y3, -⟩ := hav
  have hin := jI_in (n := 8) (by decide) g0 g1
  have hcls := (C.kn.1.1 5 _ rfl).2
  obtain ⟨kA, comp, k1, k2, k3, -⟩ := (C.kn.1.2 3 _ rfl).2
  have hcomp : comp = (eD E).1 5 := Option.some.inj (k3.symm.trans hcls.1)
  subst hcomp
  obtain ⟨kC, hkC, -⟩ := hcls.2
  refine W.aast C.hx C.hb hat (fun q h => by cases h) (fun h => by cases h) k1 k2 rfl hkC ⟨fun z => hin (Or.inl z), by show _ < (arrV _ _ _).slots.size; rw [arrV_size]; exact Nat.not_le.mp fun z => hin (Or.inr z)⟩ y1 (fun q h => by rw [y3] at h; cases h) (by rw [y2]; exact hkC) (by rw [y2]; exact va_assign hcls) rfl rfl d fun H1 e z oq => ?_
  refine kk H1 _ ls (h1.put C.kn.2.2.2 (wrE_dm hw) rfl z ?_ oq (fun _ _ _ => rfl) (fun p hp j => gR_sR_ne hp) (fun _ _ => rfl) (h1.2.1.sSta x hk hv)) (h2.put z oq (C.rg _ (wrE_rg hw))) h3
  rw [clE_k E _ hk]
  show H1[adE E q]? = some (vp_cell _ _)
  rw [e, vp_cell_q, vp_cell_q, arrV_store]
  congr 2
  funext j
  have ec : (jI x).toNatClampNeg = x.toNat := jI_clamp ⟨by omega, by omega⟩
  rw [ec]
  unfold updV
  rw [gR_sR]
  by_cases hj : j = x.toNat
  · rw [if_pos hj, if_pos ⟨rfl, by omega⟩]; rfl
  · rw [if_neg hj, if_neg (fun z => hj (by omega))]
theorem J_alen (C : Cx F E cc own ret rm ml) {q : Nat} (hq : dmE E σ q) {cA : ClassId} {ty : FieldType} {n : Nat} {b : (Nat → Int32) ⊕ (Nat → Int64) ⊕ (Nat → UInt32) ⊕ (Nat → UInt64) ⊕ (Nat → Option Nat)} (t0 : Nat) (ht : (tysE E)[t0]? = some (cA, ty)) (hcl : clE E σ q = .inl (cA, n, b)) (d : decode cc pc = .ok (.arraylength, 1)) (kk : JQ F E QF c0 s0 σ (pc + 1) lv (.int (jI (n : Int)) :: st)) : JQ F E QF c0 s0 σ pc lv (.ref (adE E q) :: st) := fun H locs ls h1 h2 h3 => by
  have e : Int32.ofNat n = jI (n : Int) := (Int32.ofInt_eq_ofNat).symm
  exact va_alen C.hx C.hb C.kn.1 (h1.one hq) 0 t0 (x := (n, b)) (by rw [hcl]; rfl) ht e d (kk H locs ls h1 h2 h3)
end ROWS
