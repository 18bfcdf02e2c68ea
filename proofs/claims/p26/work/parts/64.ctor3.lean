/-! constructors: rows of numbers and of references, Math -/
section CTOR3
variable {F : FT} {E : ET} {cc : ByteArray} {own : String} {ret : Option FieldType} {rm : Room} {ml c0 s0 z : Nat} {M : Nat → Option va_E} {pc : Nat} {lv : List (Nat × Value)} {st : List Value} {Q : State → Prop}
theorem K_alen (C : Cx F E cc own ret rm ml) {a : Nat} {cA : ClassId} {ty : FieldType} {n : Nat} {b : (Nat → Int32) ⊕ (Nat → Int64) ⊕ (Nat → UInt32) ⊕ (Nat → UInt64) ⊕ (Nat → Option Nat)} (t0 : Nat) (ht : (tysE E)[t0]? = some (cA, ty)) (hM : M a = some (.inl (cA, n, b))) (d : decode cc pc = .ok (.arraylength, 1)) (kk : JW F E Q c0 s0 z M (pc + 1) lv (.int (jI (n : Int)) :: st)) : JW F E Q c0 s0 z M pc lv (.ref a :: st) := fun H locs ls h1 h2 h3 => by
  have e : Int32.ofNat n = jI (n : Int) := (Int32.ofInt_eq_ofNat).symm
  exact va_alen C.hx C.hb C.kn.1 (h1.one hM) 0 t0 (x := (n, b)) rfl ht e d (kk H locs ls h1 h2 h3)
theorem K_iast (C : Cx F E cc own ret rm ml) {a n : Nat} {f : Nat → Int32} (hM : M a = some (.inl (ecI E, n, .inl f))) (hA : fA F a) (hn : n < 2147483648) {j : Int} {x : Int32} (g0 : 0 ≤ j) (g1 : j < (n : Int)) (d : decode cc pc = .ok (.iastore, 1))
    (kk : JW F E Q c0 s0 z (updM M a (.inl (ecI E, n, .inl (fun q => if q = j.toNat then x else f q)))) (pc + 1) lv st) : JW F E Q c0 s0 z M pc lv (.int x :: .int (jI j) :: .ref a :: st) := by
  intro H locs ls h1 h2 h3
  have hr : rgI j := ⟨by omega, by omega⟩
  have hin := jI_in hn g0 g1
  refine W.iast C.hx C.hb (h1.2 a _ hM) ((C.kn.1.2 0 _ rfl).1 n (fun j => .int (f j))) (fun q => by cases q) (by show ¬ (_ < 0 ∨ (arrV _ _ _).slots.size ≤ _); rw [arrV_size]; exact hin) rfl rfl d fun H1 e zz oq => ?_
  refine kk H1 _ ls (h1.upd zz ?_ oq) (h2.put zz oq hA) h3
  show H1[a]? = some (vp_cell _ _)
  rw [e]
  rw [vp_cell_i, vp_cell_i, arrV_store, jI_clamp hr]
  congr 2
  funext q
  by_cases hq : q = j.toNat
  · subst hq
    simp [updV]
  · simp [updV, hq]
theorem K_newS (C : Cx F E cc own ret rm ml) {n : Int} {N index : Nat} {Cn : String} {cA0 : ClassId} (t0 : Nat) (ht : (tysE E)[t0]? = some (cA0, .object Cn)) (hover : va_AO Cn (fs F)) (hcl : Cond.classLink own index Cn ∈ lw_gt) (hn : n = (N : Int)) (hN : N < 100000) (hb : c0 + 1 ≤ rm.cells ∧ s0 + N ≤ rm.slots) (d : decode cc pc = .ok (.anewarray index, 3))
    (kk : JW F E Q (c0 + 1) (s0 + N) (z + 1) (updM M z (.inl (cA0, N, .inr (.inr (.inr (.inr (fun _ => none))))))) (pc + 3) lv (.ref z :: st)) : JW F E Q c0 s0 z M pc lv (.int (jI n) :: st) := by
  intro H locs ls h1 h2 h3
  have hr : rgI n := ⟨by omega, by omega⟩
  have hcl2 : (jI n).toNatClampNeg = N := by rw [jI_clamp hr]; omega
  refine W.anew C.hx C.hb C.ho (C.ht _ hcl) (va_AO.use hover) rfl d rfl (fun w => ?_) (by rw [hcl2]; omega) (by rw [C.hR]; exact hb.1) (by rw [C.hR, hcl2]; exact hb.2) fun cA kA comp f1 f2 f3 f4 => ?_
  · rw [jI_0, jI_lt hr rgI_0] at w
    omega
  · have hcA : cA = cA0 := by
      obtain ⟨kA', comp', g1, g2, g3, g4⟩ := (C.kn.1.2 t0 _ ht).2
      exact Option.some.inj (f1.symm.trans g4)
    subst hcA
    rw [hcl2]
    generalize hH1 : H.push ({ cls := cA, slots := Array.replicate N .null, vm := .none } : Cell) = H1
    have z1 : H1.size = H.size + 1 := by rw [← hH1, Array.size_push]
    have e1 : H1[H.size]? = some (arrV cA N (fun _ => .null)) := by rw [← hH1, Array.getElem?_push_size, ← arrV_new]
    have o1 : ∀ q : Nat, q < H.size → H1[q]? = H[q]? := fun q hq => by rw [← hH1, Array.getElem?_push, if_neg (Nat.ne_of_lt hq)]
    have hz := h1.1
    subst hz
    refine kk H1 locs ls (h1.new z1 ?_ o1) (h2.grow z1 o1) h3
    show H1[H.size]? = some (vp_cell _ _)
    rw [vp_cell_q]
    exact e1
theorem K_max (C : Cx F E cc own ret rm ml) {x y : Int} (hx : rgI x) (hy : rgI y) {index : Nat} (hl : Cond.methodLink own index Lib.Math.max.name ∈ lw_gt) (w1 : Cond.static Lib.Math.max.name ∈ lw_gt) (w2 : Cond.initialized "java/lang/Math" ∈ lw_gt) (w3 : Cond.code Lib.Math.max.name Lib.Math.max.code 2 (some .int) ∈ lw_gt) (hR : 1 ≤ rm.frames ∧ 21 ≤ rm.locals) (hW : (st.map fun v => v.category).sum ≤ 8) (hcs : c0 ≤ rm.cells ∧ s0 ≤ rm.slots) (d : decode cc pc = .ok (.invokestatic index, 3)) (kk : JW F E Q c0 s0 z M (pc + 3) lv (.int (jI (max x y)) :: st)) : JW F E Q c0 s0 z M pc lv (.int (jI y) :: .int (jI x) :: st) := fun H locs ls h1 h2 h3 => by
  refine va_mmax C.hx C.hb (by rw [C.hml, h3.1]) C.ho (C.ht _ hl) (C.ht _ w1) (C.ht _ w2) (C.ht _ w3) (by rw [C.hR]; exact hR.1) (by rw [C.hR]; have := hR.2; omega) (by rw [C.hR]; exact hcs.1) (by rw [C.hR]; exact hcs.2) d ?_
  have e : (if jI x < jI y then jI y else jI x) = jI (max x y) := by
    by_cases h : x < y
    · rw [if_pos ((jI_lt hx hy).mpr h)]
      congr 1
      omega
    · rw [if_neg (fun z => h ((jI_lt hx hy).mp z))]
      congr 1
      omega
  rw [e]
  exact kk H locs ls h1 h2 h3
theorem K_min (C : Cx F E cc own ret rm ml) {x y : Int} (hx : rgI x) (hy : rgI y) {index : Nat} (hl : Cond.methodLink own index Lib.Math.min.name ∈ lw_gt) (w1 : Cond.static Lib.Math.min.name ∈ lw_gt) (w2 : Cond.initialized "java/lang/Math" ∈ lw_gt) (w3 : Cond.code Lib.Math.min.name Lib.Math.min.code 2 (some .int) ∈ lw_gt) (hR : 1 ≤ rm.frames ∧ 21 ≤ rm.locals) (hW : (st.map fun v => v.category).sum ≤ 8) (hcs : c0 ≤ rm.cells ∧ s0 ≤ rm.slots) (d : decode cc pc = .ok (.invokestatic index, 3)) (kk : JW F E Q c0 s0 z M (pc + 3) lv (.int (jI (min x y)) :: st)) : JW F E Q c0 s0 z M pc lv (.int (jI y) :: .int (jI x) :: st) := fun H locs ls h1 h2 h3 => by
  refine va_mmin C.hx C.hb (by rw [C.hml, h3.1]) C.ho (C.ht _ hl) (C.ht _ w1) (C.ht _ w2) (C.ht _ w3) (by rw [C.hR]; exact hR.1) (by rw [C.hR]; have := hR.2; omega) (by rw [C.hR]; exact hcs.1) (by rw [C.hR]; exact hcs.2) d ?_
  have e : (if jI y < jI x then jI y else jI x) = jI (min x y) := by
    by_cases h : y < x
    · rw [if_pos ((jI_lt hy hx).mpr h)]
      congr 1
      omega
    · rw [if_neg (fun z => h ((jI_lt hy hx).mp z))]
      congr 1
      omega
  rw [e]
  exact kk H locs ls h1 h2 h3
end CTOR3
