/-! constructors: a nest mate's constructor, a nest mate's static field -/
section CTOR5
variable {F : FT} {E : ET} {cc : ByteArray} {own : String} {ret : Option FieldType} {rm : Room} {ml c0 s0 z : Nat} {M : Nat → Option va_E} {pc : Nat} {lv : List (Nat × Value)} {st : List Value} {Q : State → Prop}
theorem K_getsN (C : Cx F E cc own ret rm ml) {Cn n de host : String} {v : Value} {index : Nat} (hZ : KnE E (fs F) → va_Z Cn n de v (fun a => eb E ≤ a) (fs F) (fs F).heap) (hl : KnE E (fs F) → va_Nw (.fieldLinkNest own index Cn n de host) (fs F)) (d : decode cc pc = .ok (.getstatic index, 3)) (kk : JW F E Q c0 s0 z M (pc + 3) lv (v :: st)) : JW F E Q c0 s0 z M pc lv st := fun H locs ls h1 h2 h3 =>
  va_getsN C.hx C.hb ((hZ C.kn).narrow C.lo) h2 C.ho (va_Nw.use rfl (hl C.kn)) (fun _ z => z) d (kk H locs ls h1 h2 h3)
theorem K_tlen (C : Cx F E cc own ret rm ml) {k : Nat} (hT : KnE E (fs F) → va_T .int (ea E k) 5 (fun j => .int (jI (tabE k j))) (fun a => eb E ≤ a) (fs F) (fs F).heap) (d : decode cc pc = .ok (.arraylength, 1)) (kk : JW F E Q c0 s0 z M (pc + 1) lv (.int (jI 5) :: st)) : JW F E Q c0 s0 z M pc lv (.ref (ea E k) :: st) := fun H locs ls h1 h2 h3 =>
  va_tlen C.hx C.hb ((hT C.kn).narrow C.lo) h2 (v := jI 5) rfl d (kk H locs ls h1 h2 h3)
end CTOR5
