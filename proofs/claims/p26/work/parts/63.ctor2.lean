/-! constructors: contracts, calls, the end -/
def Qcw (E : ET) (A : Nat → Prop) (z' : Nat) (M' : Nat → Option va_E) : Array Value → State → Outcome → State → Prop := fun _ st oc t => (oc = .returned none ∧ HW E z' M' t.heap) ∧ va_F A st t
def MetW (l : Launch) (E : ET) (y : MethodName) (cy : ByteArray) (mlc : Nat) (rmc : Room) (av : List Value) (z : Nat) (M : Nat → Option va_E) (z' : Nat) (M' : Nat → Option va_E) (mc ms : Nat) (A : Nat → Prop) : Prop :=
  Met l y (Cond.code y cy mlc none :: lw_gt) rmc (va_Pc av (fun U => KnE E U ∧ HW E z M U.heap)) (Qcw E A z' M') mc ms A
theorem HW.mono {E : ET} {z : Nat} {M M' : Nat → Option va_E} {H : Heap} (h : HW E z M H) (hm : ∀ a e, M' a = some e → M a = some e) : HW E z M' H := ⟨h.1, fun a e ha => h.2 a e (hm a e ha)⟩
theorem KnE.calling {E : ET} {U : State} {g : JFrame} {mk : MethodId} {a : Array Value} (h : KnE E U) : KnE E (U.calling g mk a) := by
  obtain ⟨h1, h2, ⟨r1, r2, r3, r4⟩, h3⟩ := h
  exact ⟨va_K.moved (u := U) (U := U.calling g mk a) (Vm.Alike.refl U.vm) h1, StE.moved (u := U) (U := U.calling g mk a) (Vm.Alike.refl U.vm) h2, ⟨vk_R.same (u := U) rfl r1, vk_R.same (u := U) rfl r2, vk_R.same (u := U) rfl r3, NwE.same (u := U) rfl r4⟩, h3⟩
theorem MetWJ {l : Launch} {E : ET} {y : MethodName} {cy : ByteArray} {mlc : Nat} {rmc : Room} {av : List Value} {z z' mc ms : Nat} {M M' : Nat → Option va_E} {A : Nat → Prop} (hy : plainName y.cls = true) (hav : (lg_sl av).length ≤ mlc) (hA1 : ∀ a, rgA E a → A a) (hA2 : ∀ a, A a → eb E ≤ a + 1) (hi : y.name = "<init>")
    (h : ∀ F, fl F = l → Cx F E cy y.cls none rmc mlc → fA F = A → fmc F = mc → fms F = ms → (fme F).name = "<init>" → JW F E (MQ (fb F) (Qcw E (fA F) z' M') (fa F) (fs F) (fmc F) (fms F) (fA F)) 0 0 z M 0 (lv_args 0 av) []) : MetW l E y cy mlc rmc av z M z' M' mc ms A := by
  refine Met.ofW (cc := cy) (maxL := mlc) (ret := none) hy rfl ?_
  intro p e s m args below meth c s₁ B hml hv
  obtain ⟨rfl, hk, hrep⟩ := hv
  have hts := atoms_spec (ws := Cond.code y cy mlc none :: lw_gt) B.pre
  have hin : meth.name = "<init>" := ((name_of_methodNamed B.named B.method).1).trans hi
  have C : Cx (p, l, e, (headSpec (Cond.code y cy mlc none :: lw_gt) rmc).room, s, m, av.toArray, below, meth, c, mc, ms, A, mlc, fun _ _ => True) E cy y.cls none rmc mlc :=
    ⟨B.exec, B.bytes, hml, findClass_of_methodNamed B.named, fun w hw => hts w (List.mem_cons_of_mem _ hw), B.returns, B.notSynchronized, hk, hA1, hA2, rfl, rfl⟩
  have key := h _ rfl C rfl rfl rfl hin
  rw [lg_entry_eq]
  exact key s.heap [] _ hrep va_S.rf (lv_entry av hav)
section CTOR2
variable {F : FT} {E : ET} {cc : ByteArray} {own : String} {ret : Option FieldType} {rm : Room} {ml c0 s0 z : Nat} {M : Nat → Option va_E} {pc : Nat} {lv : List (Nat × Value)} {st : List Value} {Q : State → Prop}
theorem K_ret (C : Cx F E cc own none rm ml) {M' : Nat → Option va_E} (hc : c0 ≤ fmc F) (hs : s0 ≤ fms F) (hm : ∀ a e, M' a = some e → M a = some e) (d : decode cc pc = .ok (.return_, 1)) : JW F E (MQ (fb F) (Qcw E (fA F) z M') (fa F) (fs F) (fmc F) (fms F) (fA F)) c0 s0 z M pc lv [] := fun H locs ls h1 h2 h3 =>
  W.widen hc hs (W.vret C.hx C.hb C.hr (fun t ht hW => ⟨⟨rfl, by rw [ht]; exact h1.mono hm⟩, h2.F ht⟩) h2.2.2 d C.hlk)
theorem K_run {mc ms z2 : Nat} {rest st0 : List Value} {A1 free : Nat → Prop} {M2 : Nat → Option va_E} {av : Array Value} (hA : ∀ q, A1 q → fA F q) (hf : ∀ q, free q → fA F q)
    (hr : ∀ (H : Heap) (locs : List Loc) (ls : Array Slot), HW E z M H → va_S (fA F) (fs F).heap H locs → lv_has ls (fn F) lv → va_Run (fp F) (fl F) (fe F) (fR F) (fs F) (fm F) (fa F) (fb F) (fme F) (fc F) H locs c0 s0 mc ms (F0 (fm F) pc ls st0) rest (Qcw E A1 z2 M2 av) free)
    (kk : JW F E Q (c0 + mc) (s0 + ms) z2 M2 (pc + 3) lv rest) : JW F E Q c0 s0 z M pc lv st0 := by
  intro H locs ls h1 h2 h3 T hT X
  obtain ⟨v, st₀, t, T', L, e0, X', hL, e1, e2, ⟨⟨hv, hq⟩, hz, hk⟩, go⟩ := hr H locs ls h1 h2 h3 T hT X
  cases hv
  rw [e0] at hz hk
  obtain ⟨t2, a1, b1⟩ := kk T'.heap (locs ++ L) ls (by rw [e1]; exact hq) ⟨Nat.le_trans h2.1 (by rw [e1]; exact hz), fun q g1 g2 => by
      rw [e1, hk q (Nat.lt_of_lt_of_le g1 h2.1) (fun z => g2 (hA q z))]
      exact h2.2.1 q g1 g2, fun q hq => by
      rcases List.mem_append.mp hq with h | h
      · exact h2.2.2 q h
      · exact hf _ (hL q h)⟩ h3 T' rfl X'
  exact ⟨t2, go t2 a1, b1⟩
/-- a constructor is called -/
theorem K_call {y : MethodName} {cy : ByteArray} {mlc n index b mc ms z2 : Nat} {rmc : Room} {M2 : Nat → Option va_E} {A : Nat → Prop} {As rest st0 : List Value} (C : Cx F E cc own ret rm ml) (hA : ∀ q, A q → fA F q) (hM : MetW (fl F) E y cy mlc rmc (.ref b :: As) z M z2 M2 mc ms A) (ck : CkE y cy mlc none n) (hl : Cond.methodLink own index y ∈ lw_gt) (hi : Cond.instanceMethod y ∈ lw_gt) (hnm : y.name = "<init>") (hz : rmc.cells = mc ∧ rmc.slots = ms) (hR : rmc.frames + 1 ≤ rm.frames ∧ 8 + (mlc + 11) + rmc.locals ≤ rm.locals) (hcs : c0 + mc ≤ rm.cells ∧ s0 + ms ≤ rm.slots) (hn : As.length = n) (hst : st0 = As.reverse ++ .ref b :: rest) (hW : (rest.map fun v => v.category).sum ≤ 8)
    (d : decode cc pc = .ok (.invokespecial index, 3)) (kk : JW F E Q (c0 + mc) (s0 + ms) z2 M2 (pc + 3) lv rest) : JW F E Q c0 s0 z M pc lv st0 := by
  refine K_run (mc := mc) (ms := ms) (rest := rest) (av := (Value.ref b :: As).toArray) hA hA (fun H locs ls h1 h2 h3 => ?_) kk
  have cb : CallB (fR F) (fs F) (fa F) own index y cy mlc none (Cond.code y cy mlc none :: lw_gt) rmc mc ms n :=
    callB_of n C.ht (gt_goodIn ck.1) rfl hz.1 hz.2 (C.ht _ ck.2.1) (C.ht _ hl) ck.2.2 (by rw [C.hR]; exact hR)
  exact va_runI (As := As) (rest := rest) (nL := fn F) ⟨C.hx, C.hb, C.hml, C.ho, C.ht⟩ hM ⟨cb, hnm, C.ht _ hi⟩ ⟨fun a U g mk h => ⟨h.1, h.2.1.calling, h.2.2⟩, fun U hU hW => ⟨rfl, C.kn.to h2 C.lo hW hU, by rw [hU]; exact h1⟩⟩ rfl hn h3.1 hst (lv_room hW) d (by rw [C.hR]; exact hcs)
end CTOR2
