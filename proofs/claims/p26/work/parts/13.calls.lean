/-! calls, answers, tables, Math, copies; a method's contract -/
def MetE (l : Launch) (E : ET) (y : MethodName) (cy : ByteArray) (mlc : Nat) (rc : Option FieldType) (rmc : Room) (σ : Sg) (av : List Value) (rq : Option Value → Sg → Prop) : Prop :=
  Met l y (Cond.code y cy mlc rc :: lw_gt) rmc (va_Pc av (WdE E σ)) (Qcc E (rgA E) rq 0) 0 0 (rgA E)
/-- what the tables say of a callee -/
def CkE (y : MethodName) (cy : ByteArray) (mlc : Nat) (rc : Option FieldType) (n : Nat) : Prop :=
  Cond.code y cy mlc rc ∈ lw_gt ∧ Cond.initialized y.cls ∈ lw_gt ∧ (y.cls ≠ "java/lang/invoke/MethodHandle" ∧ y.cls ≠ "java/lang/invoke/VarHandle" ∧ (parseMethodDescriptor y.desc).map (fun d => d.parameters.length) = some n)
theorem gt_good {w : Cond} (h : w ∈ lw_gt) : (w.onTables && w.keeps) = true ∨ ∃ ty, w = .arrayClass ty := good_of_word (List.mem_filter.mp h).2
theorem gt_goodIn {w : Cond} (h : w ∈ lw_gt) : GoodIn lw_gt (w :: lw_gt) := fun v hv => by
  rcases List.mem_cons.mp hv with rfl | hv
  · exact ⟨h, gt_good h⟩
  · exact ⟨hv, gt_good hv⟩
theorem MetJ {l : Launch} {E : ET} {y : MethodName} {cy : ByteArray} {mlc : Nat} {rc : Option FieldType} {rmc : Room} {σ : Sg} {av : List Value} {rq : Option Value → Sg → Prop} (hy : plainName y.cls = true) (hav : (lg_sl av).length ≤ mlc)
    (h : ∀ F, fl F = l → Cx F E cy y.cls rc rmc mlc → fq F = rq → JJ F E 0 0 σ 0 (lv_args 0 av) []) : MetE l E y cy mlc rc rmc σ av rq := by
  refine Met.ofW (cc := cy) (maxL := mlc) (ret := rc) hy rfl ?_
  intro p e s m args below meth c s₁ B hml hv
  obtain ⟨rfl, hk, hrep⟩ := hv
  have hts := atoms_spec (ws := Cond.code y cy mlc rc :: lw_gt) B.pre
  have C : Cx (p, l, e, (headSpec (Cond.code y cy mlc rc :: lw_gt) rmc).room, s, m, av.toArray, below, meth, c, 0, 0, rgA E, mlc, rq) E cy y.cls rc rmc mlc :=
    ⟨B.exec, B.bytes, hml, findClass_of_methodNamed B.named, fun w hw => hts w (List.mem_cons_of_mem _ hw), B.returns, B.notSynchronized, hk, fun _ z => z, fun a ha => by
      unfold rgA at ha
      split at ha <;> omega, rfl, rfl⟩
  have key := h _ rfl C rfl
  rw [lg_entry_eq]
  exact key s.heap [] _ hrep va_S.rf (lv_entry av hav)
section ROWS2
variable {F : FT} {E : ET} {QF : State → Prop} {cc : ByteArray} {own : String} {ret : Option FieldType} {rm : Room} {ml c0 s0 : Nat} {σ : Sg} {pc : Nat} {lv : List (Nat × Value)} {st : List Value}
theorem J_iret (C : Cx F E cc own (some .int) rm ml) (hc : c0 ≤ fmc F) (hs : s0 ≤ fms F) {x : Int} (d : decode cc pc = .ok (.ireturn, 1)) (hq : fq F (some (.int (jI x))) σ) : JJ F E c0 s0 σ pc lv [.int (jI x)] := fun H locs ls h1 h2 h3 T hT X =>
  W.widen hc hs (W.iret C.hx C.hb C.hr (fun t ht hW => ⟨⟨_, σ, rfl, hq, by rw [ht]; exact h1⟩, h2.F ht, by rw [ht, ← hT]; have h9 := X.heapSize; omega⟩) h2.2.2 d C.hlk) T hT X
theorem J_zret {ty : FieldType} (C : Cx F E cc own (some ty) rm ml) (hc : c0 ≤ fmc F) (hs : s0 ≤ fms F) {x : Int} (hn : narrow ty (.int (jI x)) = .int (jI x)) (d : decode cc pc = .ok (.ireturn, 1)) (hq : fq F (some (.int (jI x))) σ) : JJ F E c0 s0 σ pc lv [.int (jI x)] := fun H locs ls h1 h2 h3 T hT X =>
  W.widen hc hs (W.zret C.hx C.hb C.hr hn (fun t ht hW => ⟨⟨_, σ, rfl, hq, by rw [ht]; exact h1⟩, h2.F ht, by rw [ht, ← hT]; have h9 := X.heapSize; omega⟩) h2.2.2 d C.hlk) T hT X
theorem nar_z {x : Int} (h : x = 0 ∨ x = 1) : narrow .boolean (.int (jI x)) = .int (jI x) := by rcases h with rfl | rfl <;> rfl
theorem J_lret (C : Cx F E cc own (some .long) rm ml) (hc : c0 ≤ fmc F) (hs : s0 ≤ fms F) {x : Int} (d : decode cc pc = .ok (.lreturn, 1)) (hq : fq F (some (.long (jL x))) σ) : JJ F E c0 s0 σ pc lv [.long (jL x)] := fun H locs ls h1 h2 h3 T hT X =>
  W.widen hc hs (W.lret C.hx C.hb C.hr (fun t ht hW => ⟨⟨_, σ, rfl, hq, by rw [ht]; exact h1⟩, h2.F ht, by rw [ht, ← hT]; have h9 := X.heapSize; omega⟩) h2.2.2 d C.hlk) T hT X
theorem J_vret (C : Cx F E cc own none rm ml) (hc : c0 ≤ fmc F) (hs : s0 ≤ fms F) (d : decode cc pc = .ok (.return_, 1)) (hq : fq F none σ) : JJ F E c0 s0 σ pc lv [] := fun H locs ls h1 h2 h3 T hT X =>
  W.widen hc hs (W.vret C.hx C.hb C.hr (fun t ht hW => ⟨⟨_, σ, rfl, hq, by rw [ht]; exact h1⟩, h2.F ht, by rw [ht, ← hT]; have h9 := X.heapSize; omega⟩) h2.2.2 d C.hlk) T hT X
theorem J_aret {Cn : String} (C : Cx F E cc own (some (.object Cn)) rm ml) (hc : c0 ≤ fmc F) (hs : s0 ≤ fms F) {a : Nat} (d : decode cc pc = .ok (.areturn, 1)) (hq : fq F (some (.ref a)) σ) : JJ F E c0 s0 σ pc lv [.ref a] := fun H locs ls h1 h2 h3 T hT X =>
  W.widen hc hs (W.aret C.hx C.hb C.hr (Or.inl ⟨_, rfl⟩) (Or.inr ⟨_, rfl⟩) (fun t ht hW => ⟨⟨_, σ, rfl, hq, by rw [ht]; exact h1⟩, h2.F ht, by rw [ht, ← hT]; have h9 := X.heapSize; omega⟩) h2.2.2 d C.hlk) T hT X
/-- behind a call -/
theorem J_run {mc ms : Nat} {rest st0 : List Value} {A1 free : Nat → Prop} {rq : Option Value → Sg → Prop} {av : Array Value} (hA : ∀ q, A1 q → fA F q) (hf : ∀ q, free q → fA F q)
    (hr : ∀ (H : Heap) (locs : List Loc) (ls : Array Slot), RepE E σ H → va_S (fA F) (fs F).heap H locs → lv_has ls (fn F) lv → va_Run (fp F) (fl F) (fe F) (fR F) (fs F) (fm F) (fa F) (fb F) (fme F) (fc F) H locs c0 s0 mc ms (F0 (fm F) pc ls st0) rest (Qcc E A1 rq mc av) free)
    (kk : ∀ v σ', rq v σ' → JQ F E QF (c0 + mc) (s0 + ms) σ' (pc + 3) lv (v.toList ++ rest)) : JQ F E QF c0 s0 σ pc lv st0 := by
  intro H locs ls h1 h2 h3 T hT X
  obtain ⟨v, st₀, t, T', L, e0, X', hL, e1, e2, ⟨⟨v', σ', hv, hq, hb⟩, ⟨hz, hk⟩, -⟩, go⟩ := hr H locs ls h1 h2 h3 T hT X
  cases hv
  rw [e0] at hz hk
  obtain ⟨t2, a1, b1⟩ := kk v σ' hq T'.heap (locs ++ L) ls (by rw [e1]; exact hb) ⟨Nat.le_trans h2.1 (by rw [e1]; exact hz), fun q g1 g2 => by
      rw [e1, hk q (Nat.lt_of_lt_of_le g1 h2.1) (fun z => g2 (hA q z))]
      exact h2.2.1 q g1 g2, fun q hq => by
      rcases List.mem_append.mp hq with h | h
      · exact h2.2.2 q h
      · exact hf _ (hL q h)⟩ h3 T' rfl X'
  exact ⟨t2, go t2 a1, b1⟩
theorem Cx.callB {y : MethodName} {cy : ByteArray} {mlc n index : Nat} {rc : Option FieldType} {rmc : Room} (C : Cx F E cc own ret rm ml) (ck : CkE y cy mlc rc n) (hl : Cond.methodLink own index y ∈ lw_gt) (hz : rmc.cells = 0 ∧ rmc.slots = 0) (hR : rmc.frames + 1 ≤ rm.frames ∧ 8 + (mlc + 11) + rmc.locals ≤ rm.locals) :
    CallB (fR F) (fs F) (fa F) own index y cy mlc rc (Cond.code y cy mlc rc :: lw_gt) rmc 0 0 n :=
  callB_of n C.ht (gt_goodIn ck.1) rfl hz.1 hz.2 (C.ht _ ck.2.1) (C.ht _ hl) ck.2.2 (by rw [C.hR]; exact hR)
theorem J_V {y : MethodName} {cy : ByteArray} {mlc n index q : Nat} {rc : Option FieldType} {rmc : Room} {rq : Option Value → Sg → Prop} {As rest st0 : List Value} (C : Cx F E cc own ret rm ml) (hM : MetE (fl F) E y cy mlc rc rmc σ (.ref (adE E q) :: As) rq) (ck : CkE y cy mlc rc n) (hl : Cond.methodLink own index y ∈ lw_gt) (hi : Cond.instanceMethod y ∈ lw_gt) (hse : Cond.selects y.cls y y ∈ lw_gt)
    (hq : dmE E σ q) {ci N : Nat} {vs : List Value} {T : u_T} (hcl : clE E σ q = .inr (ci, vs)) (hc : vwCl[ci]? = some (y.cls, T, N)) (hz : rmc.cells = 0 ∧ rmc.slots = 0) (hR : rmc.frames + 1 ≤ rm.frames ∧ 8 + (mlc + 11) + rmc.locals ≤ rm.locals) (hcs : c0 ≤ rm.cells ∧ s0 ≤ rm.slots) (hn : As.length = n) (hst : st0 = As.reverse ++ .ref (adE E q) :: rest) (hW : (rest.map fun v => v.category).sum ≤ 8)
    (d : decode cc pc = .ok (.invokevirtual index, 3)) (kk : ∀ v σ', rq v σ' → JQ F E QF c0 s0 σ' (pc + 3) lv (v.toList ++ rest)) : JQ F E QF c0 s0 σ pc lv st0 := by
  refine J_run (mc := 0) (ms := 0) (rest := rest) (rq := rq) (av := (Value.ref (adE E q) :: As).toArray) C.rg C.rg (fun H locs ls h1 h2 h3 => ?_) kk
  exact va_runV (As := As) (rest := rest) (nL := fn F) ⟨C.hx, C.hb, C.hml, C.ho, C.ht⟩ hM ⟨C.callB ck hl hz hR, C.ht _ hi, C.ht _ hse⟩ ⟨fun a U g mk h => ⟨h.1, h.2.calling⟩, va_recv (q0 := 0) C.kn.1 (h1.one hq) hc (by rw [hcl]; rfl), fun U hU hW => ⟨rfl, C.kn.to h2 C.lo hW hU, by rw [hU]; exact h1⟩⟩ rfl hn h3.1 hst (lv_room hW) d (by rw [C.hR]; exact hcs)
theorem J_S {y : MethodName} {cy : ByteArray} {mlc n index : Nat} {rc : Option FieldType} {rmc : Room} {rq : Option Value → Sg → Prop} {As rest st0 : List Value} (C : Cx F E cc own ret rm ml) (hM : MetE (fl F) E y cy mlc rc rmc σ As rq) (ck : CkE y cy mlc rc n) (hl : Cond.methodLink own index y ∈ lw_gt) (hi : Cond.static y ∈ lw_gt)
    (hz : rmc.cells = 0 ∧ rmc.slots = 0) (hR : rmc.frames + 1 ≤ rm.frames ∧ 8 + (mlc + 11) + rmc.locals ≤ rm.locals) (hcs : c0 ≤ rm.cells ∧ s0 ≤ rm.slots) (hn : As.length = n) (hst : st0 = As.reverse ++ rest) (hW : (rest.map fun v => v.category).sum ≤ 8)
    (d : decode cc pc = .ok (.invokestatic index, 3)) (kk : ∀ v σ', rq v σ' → JQ F E QF c0 s0 σ' (pc + 3) lv (v.toList ++ rest)) : JQ F E QF c0 s0 σ pc lv st0 := by
  refine J_run (mc := 0) (ms := 0) (rest := rest) (rq := rq) (av := As.toArray) C.rg C.rg (fun H locs ls h1 h2 h3 => ?_) kk
  exact va_runS (As := As) (rest := rest) (nL := fn F) ⟨C.hx, C.hb, C.hml, C.ho, C.ht⟩ hM ⟨C.callB ck hl hz hR, C.ht _ hi⟩ ⟨fun a U g mk h => ⟨h.1, h.2.calling⟩, fun U hU hW => ⟨rfl, C.kn.to h2 C.lo hW hU, by rw [hU]; exact h1⟩⟩ rfl hn h3.1 hst (lv_room hW) d (by rw [C.hR]; exact hcs)
/-! tables -/
theorem J_gets (C : Cx F E cc own ret rm ml) {Cn n de : String} {v : Value} {index : Nat} (hZ : KnE E (fs F) → va_Z Cn n de v (fun a => eb E ≤ a + 1) (fs F) (fs F).heap) (hl : Cond.fieldLink own index Cn n de ∈ lw_gt) (d : decode cc pc = .ok (.getstatic index, 3)) (kk : JQ F E QF c0 s0 σ (pc + 3) lv (v :: st)) : JQ F E QF c0 s0 σ pc lv st := fun H locs ls h1 h2 h3 =>
  va_gets C.hx C.hb ((hZ C.kn).narrow C.lo) h2 C.ho (C.ht _ hl) (fun _ z => z) d (kk H locs ls h1 h2 h3)
theorem tabE_rg (k j : Nat) : rgI (tabE k j) := by
  have h5 : ∀ (l : List Int), (∀ x ∈ l, rgI x) → rgI (l.getD j 0) := fun l hl => by
    rw [List.getD_eq_getElem?_getD]
    cases h : l[j]? with
    | none => exact rgI_0
    | some x => exact hl x (List.mem_of_getElem? h)
  unfold tabE
  split
  · exact h5 _ (by unfold rgI; decide)
  · split
    · exact h5 _ (by unfold rgI; decide)
    · exact h5 _ (by unfold rgI; decide)
theorem J_tald (C : Cx F E cc own ret rm ml) {k : Nat} (hT : KnE E (fs F) → va_T .int (ea E k) 5 (fun j => .int (jI (tabE k j))) (fun a => eb E ≤ a + 1) (fs F) (fs F).heap) {x : Int} (g0 : 0 ≤ x) (g1 : x < 5) (d : decode cc pc = .ok (.iaload, 1)) (kk : JQ F E QF c0 s0 σ (pc + 1) lv (.int (jI (tabE k x.toNat)) :: st)) : JQ F E QF c0 s0 σ pc lv (.int (jI x) :: .ref (ea E k) :: st) := fun H locs ls h1 h2 h3 => by
  refine va_ti C.hx C.hb ((hT C.kn).narrow C.lo) h2 (jI_in (n := 5) (by decide) g0 g1) (v := .int (jI (tabE k x.toNat))) ?_ d (kk H locs ls h1 h2 h3)
  show Value.int (jI (tabE k (jI x).toNatClampNeg)) = _
  rw [jI_clamp ⟨by omega, by omega⟩]
theorem J_tlen (C : Cx F E cc own ret rm ml) {k : Nat} (hT : KnE E (fs F) → va_T .int (ea E k) 5 (fun j => .int (jI (tabE k j))) (fun a => eb E ≤ a + 1) (fs F) (fs F).heap) (d : decode cc pc = .ok (.arraylength, 1)) (kk : JQ F E QF c0 s0 σ (pc + 1) lv (.int (jI 5) :: st)) : JQ F E QF c0 s0 σ pc lv (.ref (ea E k) :: st) := fun H locs ls h1 h2 h3 =>
  va_tlen C.hx C.hb ((hT C.kn).narrow C.lo) h2 (v := jI 5) rfl d (kk H locs ls h1 h2 h3)
/-! Math -/
theorem J_max (C : Cx F E cc own ret rm ml) {x y : Int} (hx : rgI x) (hy : rgI y) {index : Nat} (hl : Cond.methodLink own index Lib.Math.max.name ∈ lw_gt) (w1 : Cond.static Lib.Math.max.name ∈ lw_gt) (w2 : Cond.initialized "java/lang/Math" ∈ lw_gt) (w3 : Cond.code Lib.Math.max.name Lib.Math.max.code 2 (some .int) ∈ lw_gt) (hR : 1 ≤ rm.frames ∧ 21 ≤ rm.locals) (hW : (st.map fun v => v.category).sum ≤ 8) (hcs : c0 ≤ rm.cells ∧ s0 ≤ rm.slots) (d : decode cc pc = .ok (.invokestatic index, 3)) (kk : JQ F E QF c0 s0 σ (pc + 3) lv (.int (jI (max x y)) :: st)) : JQ F E QF c0 s0 σ pc lv (.int (jI y) :: .int (jI x) :: st) := fun H locs ls h1 h2 h3 => by
  refine va_mmax C.hx C.hb (by rw [C.hml, h3.1]) C.ho (C.ht _ hl) (C.ht _ w1) (C.ht _ w2) (C.ht _ w3) (by rw [C.hR]; exact hR.1) (by rw [C.hR]; have := hR.2; omega) (by rw [C.hR]; exact hcs.1) (by rw [C.hR]; exact hcs.2) d ?_
  have e : (if jI x < jI y then jI y else jI x) = jI (max x y) := by
    by_cases h : x < y
    · rw [if_pos ((jI_lt hx hy).mpr h)]
      congr 1
      omega
    · rw [if_neg (fun z => h ((jI_lt hx hy).mp z))]
      congr 1
      omega
  rw [e]
  exact kk H locs ls h1 h2 h3
theorem J_min (C : Cx F E cc own ret rm ml) {x y : Int} (hx : rgI x) (hy : rgI y) {index : Nat} (hl : Cond.methodLink own index Lib.Math.min.name ∈ lw_gt) (w1 : Cond.static Lib.Math.min.name ∈ lw_gt) (w2 : Cond.initialized "java/lang/Math" ∈ lw_gt) (w3 : Cond.code Lib.Math.min.name Lib.Math.min.code 2 (some .int) ∈ lw_gt) (hR : 1 ≤ rm.frames ∧ 21 ≤ rm.locals) (hW : (st.map fun v => v.category).sum ≤ 8) (hcs : c0 ≤ rm.cells ∧ s0 ≤ rm.slots) (d : decode cc pc = .ok (.invokestatic index, 3)) (kk : JQ F E QF c0 s0 σ (pc + 3) lv (.int (jI (min x y)) :: st)) : JQ F E QF c0 s0 σ pc lv (.int (jI y) :: .int (jI x) :: st) := fun H locs ls h1 h2 h3 => by
  refine va_mmin C.hx C.hb (by rw [C.hml, h3.1]) C.ho (C.ht _ hl) (C.ht _ w1) (C.ht _ w2) (C.ht _ w3) (by rw [C.hR]; exact hR.1) (by rw [C.hR]; have := hR.2; omega) (by rw [C.hR]; exact hcs.1) (by rw [C.hR]; exact hcs.2) d ?_
  have e : (if jI y < jI x then jI y else jI x) = jI (min x y) := by
    by_cases h : y < x
    · rw [if_pos ((jI_lt hy hx).mpr h)]
      congr 1
      omega
    · rw [if_neg (fun z => h ((jI_lt hy hx).mp z))]
      congr 1
      omega
  rw [e]
  exact kk H locs ls h1 h2 h3
/-- |x|, of an x in range -/
def jAbs (x : Int) : Int := if 0 ≤ x then x else 0 - x
theorem J_abs (C : Cx F E cc own ret rm ml) {x : Int} (hx : rgI x) {index : Nat} (hl : Cond.methodLink own index Lib.Math.abs.name ∈ lw_gt) (w1 : Cond.static Lib.Math.abs.name ∈ lw_gt) (w2 : Cond.initialized "java/lang/Math" ∈ lw_gt) (w3 : Cond.code Lib.Math.abs.name Lib.Math.abs.code 1 (some .int) ∈ lw_gt) (hR : 1 ≤ rm.frames ∧ 21 ≤ rm.locals) (hW : (st.map fun v => v.category).sum ≤ 8) (hcs : c0 ≤ rm.cells ∧ s0 ≤ rm.slots) (d : decode cc pc = .ok (.invokestatic index, 3)) (kk : JQ F E QF c0 s0 σ (pc + 3) lv (.int (jI (jAbs x)) :: st)) : JQ F E QF c0 s0 σ pc lv (.int (jI x) :: st) := fun H locs ls h1 h2 h3 => by
  refine va_mabs C.hx C.hb (by rw [C.hml, h3.1]) C.ho (C.ht _ hl) (C.ht _ w1) (C.ht _ w2) (C.ht _ w3) (by rw [C.hR]; exact hR.1) (by rw [C.hR]; have := hR.2; omega) (by rw [C.hR]; exact hcs.1) (by rw [C.hR]; exact hcs.2) d ?_
  have e : (if 0 ≤ jI x then jI x else 0 - jI x) = jI (jAbs x) := by
    unfold jAbs
    show (if jI 0 ≤ jI x then jI x else jI 0 - jI x) = _
    by_cases h : 0 ≤ x
    · rw [if_pos ((jI_le rgI_0 hx).mpr h), if_pos h]
    · rw [if_neg (fun z => h ((jI_le rgI_0 hx).mp z)), if_neg h, jI_sub]
  rw [e]
  exact kk H locs ls h1 h2 h3
/-! copies of rows of ints -/
theorem J_copy (C : Cx F E cc own ret rm ml) {q0 q1 n0 n1 : Nat} (hq0 : dmE E σ q0) (hw : wrE E q1) (hcl0 : ∀ σ : Sg, clE E σ q0 = .inl (ecI E, n0, .inl (fun j => jI (gI σ q0 (j : Int))))) (hcl1 : ∀ σ : Sg, clE E σ q1 = .inl (ecI E, n1, .inl (fun j => jI (gI σ q1 (j : Int))))) (hn0 : n0 < 2147483648) (hn1 : n1 < 2147483648)
    {sp dp n : Int} (b1 : 0 ≤ sp) (b2 : 0 ≤ dp) (b3 : 0 ≤ n) (b4 : sp + n ≤ (n0 : Int)) (b5 : dp + n ≤ (n1 : Int)) {index : Nat} (hl : Cond.methodLink own index arraycopyName ∈ lw_gt) (w1 : Cond.native arraycopyName ∈ lw_gt) (w2 : Cond.static arraycopyName ∈ lw_gt) (w3 : Cond.initialized "java/lang/System" ∈ lw_gt) (hR : 1 ≤ rm.frames ∧ 26 ≤ rm.locals) (hW : (st.map fun v => v.category).sum ≤ 8)
    (d : decode cc pc = .ok (.invokestatic index, 3)) (kk : JQ F E QF c0 s0 (sC σ q0 sp q1 dp n) (pc + 3) lv st) : JQ F E QF c0 s0 σ pc lv (.int (jI n) :: .int (jI dp) :: .ref (adE E q1) :: .int (jI sp) :: .ref (adE E q0) :: st) := by
  intro H locs ls h1 h2 h3 T hT X
  have hc0 := h1.1 q0 hq0
  rw [hcl0] at hc0
  have hc1 := h1.1 q1 (wrE_dm hw)
  rw [hcl1] at hc1
  have hc0' : H[adE E q0]? = some (vp_cell (ecI E) (n0, .inl (fun j => jI (gI σ q0 (j : Int))))) := hc0
  have hc1' : H[adE E q1]? = some (vp_cell (ecI E) (n1, .inl (fun j => jI (gI σ q1 (j : Int))))) := hc1
  obtain ⟨-, k0, hk0, cm0, hkk0⟩ := (C.kn.1.2 0 _ rfl).1 n0 (fun j => .int (jI (gI σ q0 (j : Int))))
  have rs : rgI sp := ⟨by omega, by omega⟩
  have rd : rgI dp := ⟨by omega, by omega⟩
  have rn : rgI n := ⟨by omega, by omega⟩
  have es : (jI sp).toNatClampNeg = sp.toNat := jI_clamp rs
  have ed : (jI dp).toNatClampNeg = dp.toNat := jI_clamp rd
  have en : (jI n).toNatClampNeg = n.toNat := jI_clamp rn
  have nn : ∀ {z : Int}, rgI z → 0 ≤ z → ¬ jI z < 0 := fun hz h0 h => by
    have := (jI_lt hz rgI_0).mp h
    omega
  have hlo26 : 2 * (F0 (fm F) pc ls (.int (jI n) :: .int (jI dp) :: .ref (adE E q1) :: .int (jI sp) :: .ref (adE E q0) :: st)).monitorRoom + (st.map fun v => v.category).sum + (nativeFrameWords "java/lang/System" "arraycopy" 5 + 11) ≤ (fR F).locals := by
    have e5 : nativeFrameWords "java/lang/System" "arraycopy" 5 = 7 := by decide +kernel
    have h26 := hR.2
    rw [C.hR, e5]
    show 2 * 0 + _ + _ ≤ _
    omega
  obtain ⟨vm', X', step⟩ := X.arraycopy C.hx C.ho (C.ht _ hl) (C.ht _ w1) (C.ht _ w2) (C.ht _ w3) (src := adE E q0) (dst := adE E q1) (cs := vp_cell (ecI E) (n0, .inl (fun j => jI (gI σ q0 (j : Int))))) (cd := vp_cell (ecI E) (n1, .inl (fun j => jI (gI σ q1 (j : Int))))) (srcPos := jI sp) (destPos := jI dp) (n := jI n) (by rw [hT]; exact hc0') (by rw [hT]; exact hc1')
    (fun _ h => by cases h) (fun _ h => by cases h) (fun h => by cases h) (fun h => by cases h) hk0 hk0 hkk0 hkk0 (by simp [refKind]) (nn rs b1) (nn rd b2) (nn rn b3)
    (by rw [jI_toInt rs, jI_toInt rn]; show ¬ _ > ((arrV _ n0 _).slots.size : Int); rw [arrV_size]; omega)
    (by rw [jI_toInt rd, jI_toInt rn]; show ¬ _ > ((arrV _ n1 _).slots.size : Int); rw [arrV_size]; omega)
    (fun vm₁ _ i hi => by
      rw [en] at hi
      have e : (vp_cell (ecI E) (n0, .inl (fun j => jI (gI σ q0 (j : Int))))).slots.getD ((jI sp).toNatClampNeg + i) .null = .int (jI (gI σ q0 (((jI sp).toNatClampNeg + i : Nat) : Int))) := by
        show (arrV (ecI E) n0 (fun j => Value.int (jI (gI σ q0 (j : Int))))).slots.getD _ _ = _
        rw [Array.getD_eq_getD_getElem?, arrV_read _ _ (by rw [es]; omega)]
        rfl
      refine ⟨?_, ?_⟩
      · rw [e]; rfl
      · rw [e]; exact trivial)
    (g := F0 (fm F) pc ls (.int (jI n) :: .int (jI dp) :: .ref (adE E q1) :: .int (jI sp) :: .ref (adE E q0) :: st)) rfl (by rw [C.hml]; exact h3.1) (rest := st) rfl (by rw [C.hb]; exact d) (by rw [C.hR]; exact hR.1) hlo26
  have e1 : copied (vp_cell (ecI E) (n0, .inl (fun j => jI (gI σ q0 (j : Int))))) (vp_cell (ecI E) (n1, .inl (fun j => jI (gI σ q1 (j : Int))))) (jI sp) (jI dp) (jI n) = vp_cell (ecI E) (n1, .inl (va_cpy (fun j : Nat => jI (gI σ q0 (j : Int))) (fun j : Nat => jI (gI σ q1 (j : Int))) (jI sp).toNatClampNeg (jI dp).toNatClampNeg (jI n).toNatClampNeg)) := va_copied (fun z => .int z) (ecI E) (ecI E) (n0 := n0) (n1 := n1) (sp := (jI sp).toNatClampNeg) (dp := (jI dp).toNatClampNeg) (n := (jI n).toNatClampNeg) (fun j : Nat => jI (gI σ q0 (j : Int))) (fun j : Nat => jI (gI σ q1 (j : Int))) (by rw [es, en]; omega)
  rw [e1] at X' step
  have hlt : adE E q1 < H.size := (Array.getElem?_eq_some_iff.mp hc1').1
  have ev : va_cpy (fun j : Nat => jI (gI σ q0 (j : Int))) (fun j : Nat => jI (gI σ q1 (j : Int))) (jI sp).toNatClampNeg (jI dp).toNatClampNeg (jI n).toNatClampNeg = fun j : Nat => jI (gI (sC σ q0 sp q1 dp n) q1 (j : Int)) := by
    funext j
    rw [es, ed, en]
    unfold va_cpy
    rw [gI_sC]
    by_cases hj : dp.toNat ≤ j ∧ j < dp.toNat + n.toNat
    · rw [if_pos hj, if_pos ⟨rfl, by omega, by omega⟩]
      have ej : ((sp.toNat + (j - dp.toNat) : Nat) : Int) = sp + ((j : Int) - dp) := by omega
      rw [← ej]
    · rw [if_neg hj, if_neg (fun z => hj ⟨by omega, by omega⟩)]
  rw [ev] at X' step
  have hheap : ((T.setVm vm').setCell (adE E q1) (vp_cell (ecI E) (n1, .inl (fun j => jI (gI (sC σ q0 sp q1 dp n) q1 (j : Int)))))).heap = H.setIfInBounds (adE E q1) (vp_cell (ecI E) (n1, .inl (fun j => jI (gI (sC σ q0 sp q1 dp n) q1 (j : Int))))) := by rw [← hT]; rfl
  have oq : ∀ a : Nat, a ≠ adE E q1 → (H.setIfInBounds (adE E q1) (vp_cell (ecI E) (n1, .inl (fun j => jI (gI (sC σ q0 sp q1 dp n) q1 (j : Int))))))[a]? = H[a]? := fun a ha => by simp [Array.getElem?_setIfInBounds, Ne.symm ha]
  obtain ⟨t, a1, b1⟩ := kk _ _ ls (h1.put C.kn.2.2.2 (wrE_dm hw) rfl (by simp) (by rw [hcl1]; show (H.setIfInBounds _ _)[_]? = some _; simp [Array.getElem?_setIfInBounds, hlt]) oq (fun p hp j => gI_sC_ne hp) (fun _ _ _ => rfl) (fun _ _ => rfl) (h1.2.1.sC q0 sp q1 dp n))
    ⟨by simp; exact h2.1, fun a g1 g2 => by
      rw [oq a (fun z => g2 (by rw [z]; exact C.rg _ (wrE_rg hw)))]
      exact h2.2.1 a g1 g2, fun q hq => by
      rcases List.mem_append.mp hq with h | h
      · exact h2.2.2 q h
      · obtain ⟨z, -, hz⟩ := List.mem_map.mp h
        rw [← hz]
        exact C.rg _ (wrE_rg hw)⟩ h3 _ hheap X'
  exact ⟨t, step t a1, b1⟩
theorem J_top {x y : Int} (e : y = x) (k : JQ F E QF c0 s0 σ pc lv (.int (jI y) :: st)) : JQ F E QF c0 s0 σ pc lv (.int (jI x) :: st) := by rw [← e]; exact k
theorem J_topL {x y : Int} (e : y = x) (k : JQ F E QF c0 s0 σ pc lv (.long (jL y) :: st)) : JQ F E QF c0 s0 σ pc lv (.long (jL x) :: st) := by rw [← e]; exact k
theorem J_sig {σ' : Sg} (e : σ' = σ) (k : JQ F E QF c0 s0 σ' pc lv st) : JQ F E QF c0 s0 σ pc lv st := by rw [← e]; exact k
end ROWS2
/-! what a method answers -/
def qI (Q : Int → Sg → Prop) (n : Nat) : Option Value → Sg → Prop := fun v σ' => ∃ r : Int, v = some (.int (jI r)) ∧ rgI r ∧ Q r σ' ∧ gN σ' = n
def qZ (Q : Int → Sg → Prop) (n : Nat) : Option Value → Sg → Prop := fun v σ' => ∃ r : Int, v = some (.int (jI r)) ∧ (r = 0 ∨ r = 1) ∧ Q r σ' ∧ gN σ' = n
def qL (Q : Int → Sg → Prop) (n : Nat) : Option Value → Sg → Prop := fun v σ' => ∃ r : Int, v = some (.long (jL r)) ∧ Q r σ' ∧ gN σ' = n
def qV (Q : Sg → Prop) (n : Nat) : Option Value → Sg → Prop := fun v σ' => v = none ∧ Q σ' ∧ gN σ' = n
def qR (E : ET) (k : Nat) (Q : Nat → Sg → Prop) (n : Nat) : Option Value → Sg → Prop := fun v σ' => ∃ q : Nat, v = some (.ref (adE E q)) ∧ kdO q = k ∧ Q q σ' ∧ gN σ' = n
section ANSW
variable {F : FT} {E : ET} {QF : State → Prop} {c0 s0 n pc : Nat} {lv : List (Nat × Value)} {rest : List Value}
theorem rg_z {r : Int} (h : r = 0 ∨ r = 1) : rgI r := by rcases h with rfl | rfl <;> exact ⟨by decide, by decide⟩
theorem J_kI {Q : Int → Sg → Prop} (k : ∀ (r : Int) (σ' : Sg), rgI r → Q r σ' → gN σ' = n → JQ F E QF c0 s0 σ' pc lv (.int (jI r) :: rest)) : ∀ v σ', qI Q n v σ' → JQ F E QF c0 s0 σ' pc lv (v.toList ++ rest) := by
  rintro v σ' ⟨r, rfl, h1, h2, h3⟩
  exact k r σ' h1 h2 h3
theorem J_kZ {Q : Int → Sg → Prop} (k : ∀ (r : Int) (σ' : Sg), (r = 0 ∨ r = 1) → Q r σ' → gN σ' = n → JQ F E QF c0 s0 σ' pc lv (.int (jI r) :: rest)) : ∀ v σ', qZ Q n v σ' → JQ F E QF c0 s0 σ' pc lv (v.toList ++ rest) := by
  rintro v σ' ⟨r, rfl, h1, h2, h3⟩
  exact k r σ' h1 h2 h3
theorem J_kL {Q : Int → Sg → Prop} (k : ∀ (r : Int) (σ' : Sg), Q r σ' → gN σ' = n → JQ F E QF c0 s0 σ' pc lv (.long (jL r) :: rest)) : ∀ v σ', qL Q n v σ' → JQ F E QF c0 s0 σ' pc lv (v.toList ++ rest) := by
  rintro v σ' ⟨r, rfl, h2, h3⟩
  exact k r σ' h2 h3
theorem J_kV {Q : Sg → Prop} (k : ∀ (σ' : Sg), Q σ' → gN σ' = n → JQ F E QF c0 s0 σ' pc lv rest) : ∀ v σ', qV Q n v σ' → JQ F E QF c0 s0 σ' pc lv (v.toList ++ rest) := by
  rintro v σ' ⟨rfl, h2, h3⟩
  exact k σ' h2 h3
theorem J_kR {kd : Nat} {Q : Nat → Sg → Prop} (k : ∀ (q : Nat) (σ' : Sg), kdO q = kd → Q q σ' → gN σ' = n → JQ F E QF c0 s0 σ' pc lv (.ref (adE E q) :: rest)) : ∀ v σ', qR E kd Q n v σ' → JQ F E QF c0 s0 σ' pc lv (v.toList ++ rest) := by
  rintro v σ' ⟨q, rfl, h1, h2, h3⟩
  exact k q σ' h1 h2 h3
end ANSW
theorem okP.to {σ σ' : Sg} {q : Nat} (h : okP σ q) (e : gN σ' = gN σ) : okP σ' q := ⟨h.1, by rw [e]; exact h.2⟩
section PURE
variable {F : FT} {E : ET} {QF : State → Prop} {c0 s0 n pc : Nat} {σ : Sg} {lv : List (Nat × Value)} {rest : List Value}
theorem J_pI {Q : Int → Prop} (k : ∀ r : Int, rgI r → Q r → JQ F E QF c0 s0 σ pc lv (.int (jI r) :: rest)) : ∀ v σ', qI (fun r t => Q r ∧ t = σ) n v σ' → JQ F E QF c0 s0 σ' pc lv (v.toList ++ rest) := by
  rintro v σ' ⟨r, rfl, h1, ⟨h2, h4⟩, h3⟩
  rw [h4]
  exact k r h1 h2
theorem J_pZ {Q : Int → Prop} (k : ∀ r : Int, (r = 0 ∨ r = 1) → Q r → JQ F E QF c0 s0 σ pc lv (.int (jI r) :: rest)) : ∀ v σ', qZ (fun r t => Q r ∧ t = σ) n v σ' → JQ F E QF c0 s0 σ' pc lv (v.toList ++ rest) := by
  rintro v σ' ⟨r, rfl, h1, ⟨h2, h4⟩, h3⟩
  rw [h4]
  exact k r h1 h2
theorem J_pL {Q : Int → Prop} (k : ∀ r : Int, Q r → JQ F E QF c0 s0 σ pc lv (.long (jL r) :: rest)) : ∀ v σ', qL (fun r t => Q r ∧ t = σ) n v σ' → JQ F E QF c0 s0 σ' pc lv (v.toList ++ rest) := by
  rintro v σ' ⟨r, rfl, ⟨h2, h4⟩, h3⟩
  rw [h4]
  exact k r h2
theorem J_pR {kd : Nat} {Q : Nat → Prop} (k : ∀ q : Nat, kdO q = kd → Q q → JQ F E QF c0 s0 σ pc lv (.ref (adE E q) :: rest)) : ∀ v σ', qR E kd (fun r t => Q r ∧ t = σ) n v σ' → JQ F E QF c0 s0 σ' pc lv (v.toList ++ rest) := by
  rintro v σ' ⟨q, rfl, h1, ⟨h2, h4⟩, h3⟩
  rw [h4]
  exact k q h1 h2
end PURE
theorem dmC {E : ET} {σ : Sg} (hs : eS E = true) {q k : Nat} (hk : kdO q = k) (h : k < 20 ∧ k ≠ 3 ∧ k ≠ 4) : dmE E σ q := wrE_dm (wr_c hs (kdO_cls hk h.1 h.2.1 h.2.2))
theorem wrC {E : ET} (hs : eS E = true) {q k : Nat} (hk : kdO q = k) (h : k < 20 ∧ k ≠ 3 ∧ k ≠ 4) : wrE E q := wr_c hs (kdO_cls hk h.1 h.2.1 h.2.2)


theorem kc0 : kdO 0 = 1 := by decide
theorem kc1 : kdO 1 = 2 := by decide
theorem kc4 : kdO 4 = 5 := by decide
theorem kc31 : kdO 31 = 15 := by decide
theorem kc32 : kdO 32 = 7 := by decide
theorem kc33 : kdO 33 = 7 := by decide
theorem kc34 : kdO 34 = 5 := by decide
theorem kc61 : kdO 61 = 16 := by decide
theorem kc62 : kdO 62 = 17 := by decide
theorem kc279 : kdO 279 = 20 := by decide
theorem kc280 : kdO 280 = 21 := by decide
theorem kc281 : kdO 281 = 22 := by decide
theorem kc282 : kdO 282 = 23 := by decide
theorem kc283 : kdO 283 = 23 := by decide
theorem kc284 : kdO 284 = 23 := by decide
theorem kc285 : kdO 285 = 23 := by decide
theorem kc286 : kdO 286 = 23 := by decide
theorem kc287 : kdO 287 = 23 := by decide
theorem kc288 : kdO 288 = 23 := by decide
theorem kc289 : kdO 289 = 23 := by decide
theorem kc290 : kdO 290 = 23 := by decide
theorem kc291 : kdO 291 = 23 := by decide
theorem kc292 : kdO 292 = 24 := by decide
section TEXT
variable {F : FT} {E : ET} {QF : State → Prop} {cc : ByteArray} {own : String} {ret : Option FieldType} {rm : Room} {ml c0 s0 : Nat} {σ : Sg} {pc : Nat} {lv : List (Nat × Value)} {st : List Value}
theorem J_baldT (C : Cx F E cc own ret rm ml) (hs : eS E = true) {q : Nat} (hp : okP σ q) {x : Int} (g0 : 0 ≤ x) (g1 : x < gL σ (q + 1)) (d : decode cc pc = .ok (.baload, 1)) (kk : rgI (gI σ (q + 1) x) → JQ F E QF c0 s0 σ (pc + 1) lv (.int (jI (gI σ (q + 1) x)) :: st)) : JQ F E QF c0 s0 σ pc lv (.int (jI x) :: .ref (adE E (q + 1)) :: st) := fun H locs ls h1 h2 h3 => by
  have hL := h1.2.1.2.2.2.2.2 (q + 1)
  exact J_bald C (dm_t hs h1.2.1 hp) (n := (gL σ (q + 1)).toNat) (clE_k E σ (kd3_text hp.1)) (by omega) g0 (by omega) d kk H locs ls h1 h2 h3
theorem J_alenT (C : Cx F E cc own ret rm ml) (hs : eS E = true) {q : Nat} (hp : okP σ q) (d : decode cc pc = .ok (.arraylength, 1)) (kk : rgI (gL σ (q + 1)) → JQ F E QF c0 s0 σ (pc + 1) lv (.int (jI (gL σ (q + 1))) :: st)) : JQ F E QF c0 s0 σ pc lv (.ref (adE E (q + 1)) :: st) := fun H locs ls h1 h2 h3 => by
  have hL := h1.2.1.2.2.2.2.2 (q + 1)
  have e : (((gL σ (q + 1)).toNat : Nat) : Int) = gL σ (q + 1) := by omega
  refine J_alen C (dm_t hs h1.2.1 hp) (n := (gL σ (q + 1)).toNat) 1 rfl (clE_k E σ (kd3_text hp.1)) d ?_ H locs ls h1 h2 h3
  rw [e]
  exact kk ⟨by omega, by omega⟩
end TEXT
