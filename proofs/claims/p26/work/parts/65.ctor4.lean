/-! constructors: a row of objects is written; the words of all that they call; the first state -/
section CTOR4
variable {F : FT} {E : ET} {cc : ByteArray} {own : String} {ret : Option FieldType} {rm : Room} {ml c0 s0 z : Nat} {M : Nat → Option va_E} {pc : Nat} {lv : List (Nat × Value)} {st : List Value} {Q : State → Prop}
theorem arrV_ext {cI : ClassId} {N : Nat} {f g : Nat → Value} (h : ∀ j, j < N → f j = g j) : arrV cI N f = arrV cI N g := by
  unfold arrV
  congr 2
  funext j
  exact h j.val j.isLt
theorem K_aast (C : Cx F E cc own ret rm ml) {a v n ci N : Nat} {cA : ClassId} {Cn : String} {T : u_T} {vs : List Value} {f : Nat → Option Nat} (t0 : Nat) (ht : (tysE E)[t0]? = some (cA, .object Cn)) (hM : M a = some (.inl (cA, n, .inr (.inr (.inr (.inr f)))))) (hV : M v = some (.inr (ci, vs))) (hc : vwCl[ci]? = some (Cn, T, N)) (hA : fA F a) (hn : n < 2147483648) {x : Int} (g0 : 0 ≤ x) (g1 : x < (n : Int)) {f' : Nat → Option Nat} (hf : ∀ q, q < n → f' q = if q = x.toNat then some v else f q) (d : decode cc pc = .ok (.aastore, 1))
    (kk : JW F E Q c0 s0 z (updM M a (.inl (cA, n, .inr (.inr (.inr (.inr f')))))) (pc + 1) lv st) : JW F E Q c0 s0 z M pc lv (.ref v :: .int (jI x) :: .ref a :: st) := by
  intro H locs ls h1 h2 h3
  have hat := h1.2 a _ hM
  obtain ⟨r', hr', cellV, y1, y2, y3, -⟩ := h1.2 v _ hV
  have hin := jI_in hn g0 g1
  have hcls := (C.kn.1.1 ci _ hc).2
  obtain ⟨kA, comp, k1, k2, k3, -⟩ := (C.kn.1.2 t0 _ ht).2
  have hcomp : comp = (eD E).1 ci := Option.some.inj (k3.symm.trans hcls.1)
  subst hcomp
  obtain ⟨kC, hkC, -⟩ := hcls.2
  refine W.aast C.hx C.hb hat (fun q h => by cases h) (fun h => by cases h) k1 k2 rfl hkC ⟨fun z => hin (Or.inl z), by show _ < (arrV _ _ _).slots.size; rw [arrV_size]; exact Nat.not_le.mp fun z => hin (Or.inr z)⟩ y1 (fun q h => by rw [y3] at h; cases h) (by rw [y2]; exact hkC) (by rw [y2]; exact va_assign hcls) rfl rfl d fun H1 e zz oq => ?_
  refine kk H1 _ ls (h1.upd zz ?_ oq) (h2.put zz oq hA) h3
  show H1[a]? = some (vp_cell _ _)
  rw [e, vp_cell_q, vp_cell_q, arrV_store]
  congr 1
  refine arrV_ext (fun j hjn => ?_)
  have ec : (jI x).toNatClampNeg = x.toNat := jI_clamp ⟨by omega, by omega⟩
  rw [ec, hf j hjn]
  unfold updV
  by_cases hj : j = x.toNat
  · rw [if_pos hj, if_pos hj]; rfl
  · rw [if_neg hj, if_neg hj]
end CTOR4
/-- the first state: all is 0 but the settings; nobody's part is 2 -/
def sg0 : Sg := (fun q j => if q < 279 ∧ kdO q = 11 then tabE 8 j.toNat else if q = 280 then (if j = 1435 then 2 else if j = 1436 then 24 else if j = 1437 then 2 else if j = 1438 then 6 else if j = 1439 then 16 else 0) else 0, fun q j => if kdO q = 13 then q + 1 + j.toNat % 16 else if kdO q = 14 then 2 else if kdO q = 17 then 63 + 27 * (j.toNat % 8) else 0, 293, fun _ => 0)
/-- the numbers from q on, len of them, are made -/
def blM (E : ET) (M : Nat → Option va_E) (q len : Nat) : Nat → Option va_E := fun a => if eb E + q ≤ a ∧ a < eb E + q + len then some (clE E sg0 (a - eb E)) else M a
