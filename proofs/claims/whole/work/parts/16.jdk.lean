/-! small things, and the JDK's own methods -/
theorem rgN (n : Int) (h : -2147483648 ≤ n ∧ n ≤ 2147483647) : rgI n := h
theorem rg_max {x y : Int} (hx : rgI x) (hy : rgI y) : rgI (max x y) := by
  obtain ⟨a, b⟩ := hx
  obtain ⟨c, d⟩ := hy
  exact ⟨by omega, by omega⟩
theorem rg_min {x y : Int} (hx : rgI x) (hy : rgI y) : rgI (min x y) := by
  obtain ⟨a, b⟩ := hx
  obtain ⟨c, d⟩ := hy
  exact ⟨by omega, by omega⟩
def uS (x s : Int32) : Int32 := (x.toUInt32 >>> (s.toUInt32 &&& Int32.toUInt32 31)).toInt32
def bcI1 (x : Int32) : Int32 := x - (uS x 1 &&& 1431655765)
def bcI2 (x : Int32) : Int32 := (x &&& 858993459) + (uS x 2 &&& 858993459)
def bcI3 (x : Int32) : Int32 := (x + uS x 4) &&& 252645135
def bcI (x : Int32) : Int32 := (fun y : Int32 => y + uS y 16) ((fun y : Int32 => y + uS y 8) (bcI3 (bcI2 (bcI1 x)))) &&& 63
def jBit (x : Int) : Int := (bcI (jI x)).toInt
def strL (i : Nat) : Int := ((lenJ.getD i 0 : Nat) : Int)
def strC (i : Nat) (k : Int) : Int := ((bytJ.getD i []).getD k.toNat 0).toInt
theorem strL_rg (i : Nat) : rgI (strL i) := by sorry
theorem strC_rg (i : Nat) (k : Int) : rgI (strC i k) := rgI_of _
section JDK
variable {F : FT} {E : ET} {cc : ByteArray} {own : String} {ret : Option FieldType} {rm : Room} {ml c0 s0 : Nat} {σ : Sg} {pc : Nat} {lv : List (Nat × Value)} {st : List Value}
theorem J_getsN (C : Cx F E cc own ret rm ml) {Cn n de host : String} {v : Value} {index : Nat} (hZ : KnE E (fs F) → va_Z Cn n de v (fun a => eb E ≤ a) (fs F) (fs F).heap) (hl : KnE E (fs F) → va_Nw (.fieldLinkNest own index Cn n de host) (fs F)) (d : decode cc pc = .ok (.getstatic index, 3)) (kk : JJ F E c0 s0 σ (pc + 3) lv (v :: st)) : JJ F E c0 s0 σ pc lv st := fun H locs ls h1 h2 h3 =>
  va_getsN C.hx C.hb ((hZ C.kn).narrow C.lo) h2 C.ho (va_Nw.use rfl (hl C.kn)) (fun _ z => z) d (kk H locs ls h1 h2 h3)
theorem J_ldcS0 (C : Cx F E cc "CutConformer$Part" ret rm ml) (d : decode cc pc = .ok (.ldc 44, 2)) (kk : JJ F E c0 s0 σ (pc + 2) lv (.ref (ea E 0) :: st)) : JJ F E c0 s0 σ pc lv st := fun H locs ls h1 h2 h3 => va_ldcS C.hx C.hb C.ho C.kn.2.2.1.1 d (kk H locs ls h1 h2 h3)
theorem J_ldcS1 (C : Cx F E cc "CutConformer$Part" ret rm ml) (d : decode cc pc = .ok (.ldc 50, 2)) (kk : JJ F E c0 s0 σ (pc + 2) lv (.ref (ea E 1) :: st)) : JJ F E c0 s0 σ pc lv st := fun H locs ls h1 h2 h3 => va_ldcS C.hx C.hb C.ho C.kn.2.2.1.2.1 d (kk H locs ls h1 h2 h3)
theorem J_ldcS2 (C : Cx F E cc "CutConformer$Part" ret rm ml) (d : decode cc pc = .ok (.ldc 52, 2)) (kk : JJ F E c0 s0 σ (pc + 2) lv (.ref (ea E 2) :: st)) : JJ F E c0 s0 σ pc lv st := fun H locs ls h1 h2 h3 => va_ldcS C.hx C.hb C.ho C.kn.2.2.1.2.2.1 d (kk H locs ls h1 h2 h3)
theorem J_bitCount (C : Cx F E cc own ret rm ml) {x : Int} {index : Nat} (hl : Cond.methodLink own index yJ6_bitCount_0f7a4 ∈ lw_gt) (hR : 1 ≤ rm.frames ∧ 20 ≤ rm.locals) (hW : (st.map fun v => v.category).sum ≤ 8) (hcs : c0 ≤ rm.cells ∧ s0 ≤ rm.slots) (d : decode cc pc = .ok (.invokestatic index, 3)) (kk : rgI (jBit x) → JJ F E c0 s0 σ (pc + 3) lv (.int (jI (jBit x)) :: st)) : JJ F E c0 s0 σ pc lv (.int (jI x) :: st) := by sorry
theorem J_strLen (C : Cx F E cc own ret rm ml) {i : Nat} (hi : i < 3) {index : Nat} (hl : Cond.methodLink own index yJ0_length_8abf5 ∈ lw_gt) (hR : 2 ≤ rm.frames ∧ 40 ≤ rm.locals) (hW : (st.map fun v => v.category).sum ≤ 8) (hcs : c0 ≤ rm.cells ∧ s0 ≤ rm.slots) (d : decode cc pc = .ok (.invokevirtual index, 3)) (kk : JJ F E c0 s0 σ (pc + 3) lv (.int (jI (strL i)) :: st)) : JJ F E c0 s0 σ pc lv (.ref (ea E i) :: st) := by sorry
theorem J_charAt (C : Cx F E cc own ret rm ml) {i : Nat} (hi : i < 3) {k : Int} (g0 : 0 ≤ k) (g1 : k < strL i) {index : Nat} (hl : Cond.methodLink own index yJ0_charAt_5068e ∈ lw_gt) (hR : 4 ≤ rm.frames ∧ 86 ≤ rm.locals) (hW : (st.map fun v => v.category).sum ≤ 8) (hcs : c0 ≤ rm.cells ∧ s0 ≤ rm.slots) (d : decode cc pc = .ok (.invokevirtual index, 3)) (kk : JJ F E c0 s0 σ (pc + 3) lv (.int (jI (strC i k)) :: st)) : JJ F E c0 s0 σ pc lv (.int (jI k) :: .ref (ea E i) :: st) := by sorry
end JDK
