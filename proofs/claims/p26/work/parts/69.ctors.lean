/-! constructors: a nest mate's constructor, a nest mate's static field -/
section CTOR5
variable {F : FT} {E : ET} {cc : ByteArray} {own : String} {ret : Option FieldType} {rm : Room} {ml c0 s0 z : Nat} {M : Nat → Option va_E} {pc : Nat} {lv : List (Nat × Value)} {st : List Value} {Q : State → Prop}
theorem K_getsN (C : Cx F E cc own ret rm ml) {Cn n de host : String} {v : Value} {index : Nat} (hZ : KnE E (fs F) → va_Z Cn n de v (fun a => eb E ≤ a + 1) (fs F) (fs F).heap) (hl : KnE E (fs F) → va_Nw (.fieldLinkNest own index Cn n de host) (fs F)) (d : decode cc pc = .ok (.getstatic index, 3)) (kk : JW F E Q c0 s0 z M (pc + 3) lv (v :: st)) : JW F E Q c0 s0 z M pc lv st := fun H locs ls h1 h2 h3 =>
  va_getsN C.hx C.hb ((hZ C.kn).narrow C.lo) h2 C.ho (va_Nw.use rfl (hl C.kn)) (fun _ z => z) d (kk H locs ls h1 h2 h3)
theorem K_tlen (C : Cx F E cc own ret rm ml) {k : Nat} (hT : KnE E (fs F) → va_T .int (ea E k) 5 (fun j => .int (jI (tabE k j))) (fun a => eb E ≤ a + 1) (fs F) (fs F).heap) (d : decode cc pc = .ok (.arraylength, 1)) (kk : JW F E Q c0 s0 z M (pc + 1) lv (.int (jI 5) :: st)) : JW F E Q c0 s0 z M pc lv (.ref (ea E k) :: st) := fun H locs ls h1 h2 h3 =>
  va_tlen C.hx C.hb ((hT C.kn).narrow C.lo) h2 (v := jI 5) rfl d (kk H locs ls h1 h2 h3)
/-- a nest mate's constructor is called -/
theorem K_callN {y : MethodName} {cy : ByteArray} {mlc n index b mc ms z2 : Nat} {rmc : Room} {M2 : Nat → Option va_E} {A : Nat → Prop} {As rest st0 : List Value} {host : String} (C : Cx F E cc own ret rm ml) (hA : ∀ q, A q → fA F q) (hM : MetW (fl F) E y cy mlc rmc (.ref b :: As) z M z2 M2 mc ms A) (ck : CkE y cy mlc none n) (hl : KnE E (fs F) → va_Nw (.methodLinkNest own index y host) (fs F)) (hi : Cond.instanceMethod y ∈ lw_gt) (hnm : y.name = "<init>") (hz : rmc.cells = mc ∧ rmc.slots = ms) (hR : rmc.frames + 1 ≤ rm.frames ∧ 8 + (mlc + 11) + rmc.locals ≤ rm.locals) (hcs : c0 + mc ≤ rm.cells ∧ s0 + ms ≤ rm.slots) (hn : As.length = n) (hst : st0 = As.reverse ++ .ref b :: rest) (hW : (rest.map fun v => v.category).sum ≤ 8)
    (d : decode cc pc = .ok (.invokespecial index, 3)) (kk : JW F E Q (c0 + mc) (s0 + ms) z2 M2 (pc + 3) lv rest) : JW F E Q c0 s0 z M pc lv st0 := by
  refine K_run (mc := mc) (ms := ms) (rest := rest) (av := (Value.ref b :: As).toArray) hA hA (fun H locs ls h1 h2 h3 => ?_) kk
  have cb : va_CN (fR F) (fs F) (fa F) own index y host cy mlc none (Cond.code y cy mlc none :: lw_gt) rmc mc ms n :=
    va_cnB n C.ht (gt_goodIn ck.1) rfl hz.1 hz.2 (hl C.kn) (C.ht _ ck.2.1) ck.2.2 (by rw [C.hR]; exact hR)
  exact va_runIN (As := As) (rest := rest) (nL := fn F) ⟨C.hx, C.hb, C.hml, C.ho, C.ht⟩ hM ⟨cb, hnm, C.ht _ hi⟩ ⟨fun a U g mk h => ⟨h.1, h.2.1.calling, h.2.2⟩, fun U hU hW => ⟨rfl, C.kn.to h2 C.lo hW hU, by rw [hU]; exact h1⟩⟩ rfl hn h3.1 hst (lv_room hW) d (by rw [C.hR]; exact hcs)
end CTOR5
