/-! CONSTRUCTORS: the machine's rows over a heap that is known address by address: it has z cells; M says what lies where -/
def HW (E : ET) (z : Nat) (M : Nat → Option va_E) (H : Heap) : Prop := H.size = z ∧ ∀ a e, M a = some e → va_at (eD E) vwCl (a, e) H
def updM (M : Nat → Option va_E) (a : Nat) (e : va_E) : Nat → Option va_E := fun b => if b = a then some e else M b
theorem updM_self (M : Nat → Option va_E) (a : Nat) (e : va_E) : updM M a e a = some e := if_pos rfl
theorem updM_ne {M : Nat → Option va_E} {a b : Nat} {e : va_E} (h : b ≠ a) : updM M a e b = M b := if_neg h
theorem HW.lt {E : ET} {z : Nat} {M : Nat → Option va_E} {H : Heap} (h : HW E z M H) {a : Nat} {e : va_E} (ha : M a = some e) : a < z := by
  have := (h.2 a e ha).lt
  rw [h.1] at this
  exact this
theorem HW.one {E : ET} {z : Nat} {M : Nat → Option va_E} {H : Heap} (h : HW E z M H) {a : Nat} {e : va_E} (ha : M a = some e) : va_P (eD E) vwCl [(a, e)] H := fun k p hp => by
  cases k with
  | zero => cases hp; exact h.2 a e ha
  | succ k => simp at hp
theorem HW.upd {E : ET} {z : Nat} {M : Nat → Option va_E} {H H1 : Heap} {a : Nat} {e : va_E} (h : HW E z M H) (hz : H1.size = H.size) (ha : va_at (eD E) vwCl (a, e) H1) (ho : ∀ b, b ≠ a → H1[b]? = H[b]?) : HW E z (updM M a e) H1 := by
  refine ⟨hz.trans h.1, fun b f hb => ?_⟩
  unfold updM at hb
  by_cases e1 : b = a
  · rw [if_pos e1] at hb
    cases hb
    rw [e1]; exact ha
  · rw [if_neg e1] at hb
    exact (h.2 b f hb).kept (ho b e1)
theorem HW.new {E : ET} {z : Nat} {M : Nat → Option va_E} {H H1 : Heap} {e : va_E} (h : HW E z M H) (hz : H1.size = z + 1) (ha : va_at (eD E) vwCl (z, e) H1) (ho : ∀ b, b < z → H1[b]? = H[b]?) : HW E (z + 1) (updM M z e) H1 := by
  refine ⟨hz, fun b f hb => ?_⟩
  unfold updM at hb
  by_cases e1 : b = z
  · rw [if_pos e1] at hb
    cases hb
    rw [e1]; exact ha
  · rw [if_neg e1] at hb
    exact (h.2 b f hb).kept (ho b (h.lt hb))
def JW (F : FT) (E : ET) (Q : State → Prop) (c0 s0 z : Nat) (M : Nat → Option va_E) (pc : Nat) (lv : List (Nat × Value)) (st : List Value) : Prop :=
  ∀ (H : Heap) (locs : List Loc) (ls : Array Slot), HW E z M H → va_S (fA F) (fs F).heap H locs → lv_has ls (fn F) lv → W (fp F) (fl F) (fe F) (fR F) (fs F) (fm F) (fa F) (fb F) (fme F) (fc F) H locs c0 s0 Q (F0 (fm F) pc ls st)
section CTOR
variable {F : FT} {E : ET} {cc : ByteArray} {own : String} {ret : Option FieldType} {rm : Room} {ml c0 s0 z : Nat} {M : Nat → Option va_E} {pc : Nat} {lv : List (Nat × Value)} {st : List Value} {Q : State → Prop}
theorem K_iconst (C : Cx F E cc own ret rm ml) {n : Int} (d : decode cc pc = .ok (.iconst n, 1)) (k : JW F E Q c0 s0 z M (pc + 1) lv (.int (jI n) :: st)) : JW F E Q c0 s0 z M pc lv st := fun H locs ls h1 h2 h3 => lv_iconst C.hx C.hb d rfl (k H locs ls h1 h2 h3)
theorem K_bipush (C : Cx F E cc own ret rm ml) {n : Int} (d : decode cc pc = .ok (.bipush n, 2)) (hv : (Int8.ofInt n).toInt32 = jI n) (k : JW F E Q c0 s0 z M (pc + 2) lv (.int (jI n) :: st)) : JW F E Q c0 s0 z M pc lv st := fun H locs ls h1 h2 h3 => lv_bipush C.hx C.hb d hv (k H locs ls h1 h2 h3)
theorem K_sipush (C : Cx F E cc own ret rm ml) {n : Int} (d : decode cc pc = .ok (.sipush n, 3)) (hv : (Int16.ofInt n).toInt32 = jI n) (k : JW F E Q c0 s0 z M (pc + 3) lv (.int (jI n) :: st)) : JW F E Q c0 s0 z M pc lv st := fun H locs ls h1 h2 h3 => lv_sipush C.hx C.hb d hv (k H locs ls h1 h2 h3)
theorem K_iload_n (C : Cx F E cc own ret rm ml) {kk : Fin 4} {i : Nat} {x : Int32} (d : decode cc pc = .ok (.iload_n kk, 1)) (hi : (kk : Nat) = i) (pl : Nat) (h : lv[pl]? = some (i, .int x)) (k : JW F E Q c0 s0 z M (pc + 1) lv (.int x :: st)) : JW F E Q c0 s0 z M pc lv st := fun H locs ls h1 h2 h3 => lv_iload_n C.hx C.hb d hi (lv_at h3 pl h) (k H locs ls h1 h2 h3)
theorem K_iload (C : Cx F E cc own ret rm ml) {i : Nat} {x : Int32} (d : decode cc pc = .ok (.iload i, 2)) (pl : Nat) (h : lv[pl]? = some (i, .int x)) (k : JW F E Q c0 s0 z M (pc + 2) lv (.int x :: st)) : JW F E Q c0 s0 z M pc lv st := fun H locs ls h1 h2 h3 => lv_iload C.hx C.hb d (lv_at h3 pl h) (k H locs ls h1 h2 h3)
theorem K_aload_n (C : Cx F E cc own ret rm ml) {kk : Fin 4} {i x : Nat} (d : decode cc pc = .ok (.aload_n kk, 1)) (hi : (kk : Nat) = i) (pl : Nat) (h : lv[pl]? = some (i, .ref x)) (k : JW F E Q c0 s0 z M (pc + 1) lv (.ref x :: st)) : JW F E Q c0 s0 z M pc lv st := fun H locs ls h1 h2 h3 => lv_aload_n C.hx C.hb d hi (lv_at h3 pl h) (k H locs ls h1 h2 h3)
theorem K_istore_n (C : Cx F E cc own ret rm ml) {kk : Fin 4} {i : Nat} {x : Int32} {lv' : List (Nat × Value)} (d : decode cc pc = .ok (.istore_n kk, 1)) (hi : (kk : Nat) = i) (hn : i < ml) (hl : (i, Value.int x) :: lv.filter (fun q => !(q.1 == i) && !(q.1 + 1 == i && q.2.category == 2)) = lv') (k : JW F E Q c0 s0 z M (pc + 1) lv' st) : JW F E Q c0 s0 z M pc lv (.int x :: st) := fun H locs ls h1 h2 h3 => lv_istore_n C.hx C.hb d hi h3 (by rw [C.hn]; exact hn) hl (fun ls' h' => k H locs ls' h1 h2 h')
theorem K_istore (C : Cx F E cc own ret rm ml) {i : Nat} {x : Int32} {lv' : List (Nat × Value)} (d : decode cc pc = .ok (.istore i, 2)) (hn : i < ml) (hl : (i, Value.int x) :: lv.filter (fun q => !(q.1 == i) && !(q.1 + 1 == i && q.2.category == 2)) = lv') (k : JW F E Q c0 s0 z M (pc + 2) lv' st) : JW F E Q c0 s0 z M pc lv (.int x :: st) := fun H locs ls h1 h2 h3 => lv_istore C.hx C.hb d h3 (by rw [C.hn]; exact hn) hl (fun ls' h' => k H locs ls' h1 h2 h')
theorem K_astore_n (C : Cx F E cc own ret rm ml) {kk : Fin 4} {i x : Nat} {lv' : List (Nat × Value)} (d : decode cc pc = .ok (.astore_n kk, 1)) (hi : (kk : Nat) = i) (hn : i < ml) (hl : (i, Value.ref x) :: lv.filter (fun q => !(q.1 == i) && !(q.1 + 1 == i && q.2.category == 2)) = lv') (k : JW F E Q c0 s0 z M (pc + 1) lv' st) : JW F E Q c0 s0 z M pc lv (.ref x :: st) := fun H locs ls h1 h2 h3 => lv_astore_n C.hx C.hb d hi h3 (by rw [C.hn]; exact hn) hl (fun ls' h' => k H locs ls' h1 h2 h')
theorem K_iinc (C : Cx F E cc own ret rm ml) {i : Nat} {n x : Int} {lv' : List (Nat × Value)} (d : decode cc pc = .ok (.iinc i n, 3)) (pl : Nat) (h : lv[pl]? = some (i, .int (jI x))) (hn : i < ml) (hl : (i, Value.int (jI (x + n))) :: lv.filter (fun q => !(q.1 == i) && !(q.1 + 1 == i && q.2.category == 2)) = lv') (k : JW F E Q c0 s0 z M (pc + 3) lv' st) : JW F E Q c0 s0 z M pc lv st := fun H locs ls h1 h2 h3 => lv_iinc C.hx C.hb d h3 h (jI_add x n) (by rw [C.hn]; exact hn) hl (fun ls' h' => k H locs ls' h1 h2 h')
theorem K_dup (C : Cx F E cc own ret rm ml) {va : Value} (d : decode cc pc = .ok (.dup, 1)) (hc : va.category = 1) (k : JW F E Q c0 s0 z M (pc + 1) lv (va :: va :: st)) : JW F E Q c0 s0 z M pc lv (va :: st) := fun H locs ls h1 h2 h3 => lv_dup C.hx C.hb d hc (k H locs ls h1 h2 h3)
theorem K_pop (C : Cx F E cc own ret rm ml) {va : Value} (d : decode cc pc = .ok (.pop, 1)) (hc : va.category = 1) (k : JW F E Q c0 s0 z M (pc + 1) lv st) : JW F E Q c0 s0 z M pc lv (va :: st) := fun H locs ls h1 h2 h3 => lv_pop C.hx C.hb d hc (k H locs ls h1 h2 h3)
theorem K_goto (C : Cx F E cc own ret rm ml) {off : Int} {tgt : Nat} (d : decode cc pc = .ok (.goto off, 3)) (ht : (pc : Int) + off = (tgt : Int)) (k : JW F E Q c0 s0 z M tgt lv st) : JW F E Q c0 s0 z M pc lv st := fun H locs ls h1 h2 h3 => lv_goto C.hx C.hb d ht (k H locs ls h1 h2 h3)
theorem K_icmp_ge (C : Cx F E cc own ret rm ml) {x y : Int} (hx : rgI x) (hy : rgI y) {off : Int} {tgt : Nat} (d : decode cc pc = .ok (.if_icmp .ge off, 3)) (ht : (pc : Int) + off = (tgt : Int)) (kt : y ≤ x → JW F E Q c0 s0 z M tgt lv st) (kf : ¬ y ≤ x → JW F E Q c0 s0 z M (pc + 3) lv st) : JW F E Q c0 s0 z M pc lv (.int (jI y) :: .int (jI x) :: st) := fun H locs ls h1 h2 h3 => lv_icmp_ge C.hx C.hb d ht (fun q => kt ((jI_le hy hx).mp q) H locs ls h1 h2 h3) (fun q => kf (fun z => q ((jI_le hy hx).mpr z)) H locs ls h1 h2 h3)
theorem K_isub (C : Cx F E cc own ret rm ml) {x y : Int} (d : decode cc pc = .ok (.isub, 1)) (k : JW F E Q c0 s0 z M (pc + 1) lv (.int (jI (x - y)) :: st)) : JW F E Q c0 s0 z M pc lv (.int (jI y) :: .int (jI x) :: st) := fun H locs ls h1 h2 h3 => lv_isub C.hx C.hb d (by rw [jI_sub]; exact k H locs ls h1 h2 h3)
theorem K_iadd (C : Cx F E cc own ret rm ml) {x y : Int} (d : decode cc pc = .ok (.iadd, 1)) (k : JW F E Q c0 s0 z M (pc + 1) lv (.int (jI (x + y)) :: st)) : JW F E Q c0 s0 z M pc lv (.int (jI y) :: .int (jI x) :: st) := fun H locs ls h1 h2 h3 => lv_iadd C.hx C.hb d (by rw [jI_add]; exact k H locs ls h1 h2 h3)
/-- Object's constructor -/
theorem K_objInit (C : Cx F E cc own ret rm ml) {index a : Nat} (hl : Cond.methodLink own index Lib.objectInit ∈ lw_gt) (hi : Cond.instanceMethod Lib.objectInit ∈ lw_gt) (hcd : Cond.code Lib.objectInit ⟨#[0xb1]⟩ 1 none ∈ lw_gt) (hR : 1 ≤ rm.frames ∧ 20 ≤ rm.locals) (hW : (st.map fun v => v.category).sum ≤ 8) (d : decode cc pc = .ok (.invokespecial index, 3)) (kk : JW F E Q c0 s0 z M (pc + 3) lv st) : JW F E Q c0 s0 z M pc lv (.ref a :: st) := fun H locs ls h1 h2 h3 =>
  W.objInit C.hx C.hb C.ho (C.ht _ hl) (C.ht _ hi) (C.ht _ hcd) rfl (by rw [C.hml]; exact h3.1) rfl d (by rw [C.hR]; exact hR.1) (by rw [C.hR]; have := hR.2; have e := lv_room (m := fm F) (pc := pc) (ls := ls) (rest := .ref a :: st) hW; omega) (kk H locs ls h1 h2 h3)
theorem K_get (C : Cx F E cc own ret rm ml) {a ci N index : Nat} {fs : List Value} {Cn : String} {T : u_T} (hM : M a = some (.inr (ci, fs))) (hc : vwCl[ci]? = some (Cn, T, N)) (hin : ∀ w ∈ u_ws Cn T N, w ∈ lw_gt) (k : Nat) (hk : k < N) (hl : Cond.fieldLink own index (T k).1 (T k).2.1 (T k).2.2.1 ∈ lw_gt) {v : Value} (hv : fs[k]? = some v) (d : decode cc pc = .ok (.getfield index, 3)) (kk : JW F E Q c0 s0 z M (pc + 3) lv (v :: st)) : JW F E Q c0 s0 z M pc lv (.ref a :: st) := fun H locs ls h1 h2 h3 =>
  va_get C.hx C.hb C.ht hin C.ho C.kn.1 (h1.one hM) 0 rfl hc k hk (C.ht _ hl) (fun _ z => z) hv d (kk H locs ls h1 h2 h3)
/-- a final field of the object under construction -/
theorem K_putF (C : Cx F E cc own ret rm ml) {a ci N index : Nat} {fs : List Value} {Cn : String} {T : u_T} {k : Nat} {v : Value} {ty : FieldType} (hM : M a = some (.inr (ci, fs))) (hA : fA F a) (hc : vwCl[ci]? = some (Cn, T, N)) (hin : ∀ w ∈ u_ws Cn T N, w ∈ lw_gt) (ty0 : Nat → FieldType) (hty : ∀ k, k < N → parseFieldDescriptor (T k).2.2.1 = some (ty0 k)) (hnm : ∀ a, a < N → ∀ b, b < N → a ≠ b → (T a).2.1 ≠ (T b).2.1) (hk : k < N) (hl : Cond.fieldLink own index (T k).1 (T k).2.1 (T k).2.2.1 ∈ lw_gt) (hfin : (T k).2.2.2 = true) (hin2 : (fme F).name = "<init>") (hdecl : (T k).1 = own) (hd : parseFieldDescriptor (T k).2.2.1 = some ty) (hnv : narrow ty v = v) (hft : fits ty v = true) (hlen : k < fs.length)
    (d : decode cc pc = .ok (.putfield index, 3)) (kk : JW F E Q c0 s0 z (updM M a (.inr (ci, fs.set k v))) (pc + 3) lv st) : JW F E Q c0 s0 z M pc lv (v :: .ref a :: st) := by
  intro H locs ls h1 h2 h3
  have hap := va_apart (own := own) C.ht hin ty0 hty hnm C.kn.1 hc
  obtain ⟨r, e1, cell, q1, q2, q3, q4⟩ := h1.2 a _ hM
  have hr : r = (Cn, T, N) := Option.some.inj (e1.symm.trans hc)
  subst hr
  obtain ⟨hS, hfc, kC, hkC, hkind⟩ := C.kn.1.1 ci _ hc
  obtain ⟨cf, kf, fi, f, hi, hsl⟩ := hS k hk
  have hlay := C.ht _ (hin _ (u_in_lay hk))
  unfold u_lay at hlay
  rw [if_pos hfin] at hlay
  have hst := (u_facts hfc hkC (u_lays C.ht hin hk) hi).1
  have hcf : (fm F).cls = cf := by
    obtain ⟨_, _, c', _, _, _, -, -, hf', -, -, -, hown2, -⟩ := Cond.laysFinal_spec hlay
    have e1 : c' = cf := by have := hi.symm.trans hf'; simp at this; exact this.1.symm
    rw [hdecl] at hown2
    rw [← e1]; exact Option.some.inj (C.ho.symm.trans hown2)
  have h6 := u_fits hfc hkC hkind (Or.inr hlay) hi hd hnv hft
  refine W.putFinK C.hx C.hb C.ho (C.ht _ hl) hi hst hcf hin2 (by rw [q2]; exact h6) q1 q3 (by rw [hsl]; exact k2_hasslot (q4 k hk)) rfl rfl d fun H' e1 e2 e3 => ?_
  rw [hsl] at e1 ⊢
  exact kk H' _ ls (h1.upd e2 ⟨_, hc, t_OB.to (V := updV (vp_V fs) k v) ⟨_, e1, q2, q3, t_set q4 hap hk v⟩ (fun j _ => vp_updV_set hlen v j)⟩ e3) (h2.put e2 e3 hA) h3
/-- a field that isn't final -/
theorem K_put (C : Cx F E cc own ret rm ml) {a ci N index : Nat} {fs : List Value} {Cn : String} {T : u_T} {k : Nat} {v : Value} {ty : FieldType} (hM : M a = some (.inr (ci, fs))) (hA : fA F a) (hc : vwCl[ci]? = some (Cn, T, N)) (hin : ∀ w ∈ u_ws Cn T N, w ∈ lw_gt) (ty0 : Nat → FieldType) (hty : ∀ k, k < N → parseFieldDescriptor (T k).2.2.1 = some (ty0 k)) (hnm : ∀ a, a < N → ∀ b, b < N → a ≠ b → (T a).2.1 ≠ (T b).2.1) (hk : k < N) (hl : Cond.fieldLink own index (T k).1 (T k).2.1 (T k).2.2.1 ∈ lw_gt) (hfin : (T k).2.2.2 = false) (hd : parseFieldDescriptor (T k).2.2.1 = some ty) (hnv : narrow ty v = v) (hft : fits ty v = true) (hlen : k < fs.length)
    (d : decode cc pc = .ok (.putfield index, 3)) (kk : JW F E Q c0 s0 z (updM M a (.inr (ci, fs.set k v))) (pc + 3) lv st) : JW F E Q c0 s0 z M pc lv (v :: .ref a :: st) := by
  intro H locs ls h1 h2 h3
  have hap := va_apart (own := own) C.ht hin ty0 hty hnm C.kn.1 hc
  obtain ⟨r, e1, cell, q1, q2, q3, q4⟩ := h1.2 a _ hM
  have hr : r = (Cn, T, N) := Option.some.inj (e1.symm.trans hc)
  subst hr
  obtain ⟨hS, hfc, kC, hkC, hkind⟩ := C.kn.1.1 ci _ hc
  obtain ⟨cf, kf, fi, f, hi, hsl⟩ := hS k hk
  have hlay := C.ht _ (hin _ (u_in_lay hk))
  unfold u_lay at hlay
  rw [if_neg (by rw [hfin]; decide)] at hlay
  have hst := (u_facts hfc hkC (u_lays C.ht hin hk) hi).1
  have h6 := u_store hfc hkC hkind hlay hi hd hnv hft
  refine W.putK C.hx C.hb (f := f) ⟨C.ho, C.ht _ hl, ⟨_, _, _, hi⟩, hst⟩ (by rw [q2]; exact h6) q1 q3 (by rw [hsl]; exact k2_hasslot (q4 k hk)) rfl rfl d fun H' e1 e2 e3 => ?_
  rw [hsl] at e1 ⊢
  exact kk H' _ ls (h1.upd e2 ⟨_, hc, t_OB.to (V := updV (vp_V fs) k v) ⟨_, e1, q2, q3, t_set q4 hap hk v⟩ (fun j _ => vp_updV_set hlen v j)⟩ e3) (h2.put e2 e3 hA) h3
theorem K_new (C : Cx F E cc own ret rm ml) {ci N index : Nat} {Cn : String} {T : u_T} {fs : List Value} (hin : ∀ w ∈ u_ws Cn T N, w ∈ lw_gt) (ty0 : Nat → FieldType) (hty : ∀ k, k < N → parseFieldDescriptor (T k).2.2.1 = some (ty0 k)) (hcl : Cond.classLink own index Cn ∈ lw_gt) (hinst : Cond.instantiable Cn N ∈ lw_gt) (hini : Cond.initialized Cn ∈ lw_gt) (hc : vwCl[ci]? = some (Cn, T, N)) (hfs : ∀ j, j < N → defaultValue (ty0 j) = vp_V fs j) (hb : c0 + 1 ≤ rm.cells ∧ s0 + N ≤ rm.slots)
    (d : decode cc pc = .ok (.new index, 3)) (kk : JW F E Q (c0 + 1) (s0 + N) (z + 1) (updM M z (.inr (ci, fs))) (pc + 3) lv (.ref z :: st)) : JW F E Q c0 s0 z M pc lv st := by
  intro H locs ls h1 h2 h3
  have hKn := C.kn.1.1 ci _ hc
  refine W.newcK C.hx C.hb C.ho (C.ht _ hcl) (C.ht _ hinst) (C.ht _ hini) rfl d (by rw [C.hR]; exact hb.1) (by rw [C.hR]; exact hb.2) hKn.2.1 h1.1 fun H1 kC hkC e1 z1 o1 => ?_
  refine kk H1 locs ls (h1.new z1 ⟨_, hc, (u_born ty0 C.ht hin hKn hkC e1 hty).to hfs⟩ o1) (h2.grow (by rw [z1, h1.1]) (by rw [h1.1]; exact o1)) h3
theorem K_newI (C : Cx F E cc own ret rm ml) {n : Int} {N : Nat} (hn : n = (N : Int)) (hN : N < 100000) (ha : Cond.arrayClass .int ∈ lw_gt) (hb : c0 + 1 ≤ rm.cells ∧ s0 + N ≤ rm.slots) (d : decode cc pc = .ok (.newarray .int, 2))
    (kk : JW F E Q (c0 + 1) (s0 + N) (z + 1) (updM M z (.inl (ecI E, N, .inl (fun _ => 0)))) (pc + 2) lv (.ref z :: st)) : JW F E Q c0 s0 z M pc lv (.int (jI n) :: st) := by
  intro H locs ls h1 h2 h3
  have hr : rgI n := ⟨by omega, by omega⟩
  refine va_newaK C.hx C.hb (atype := .int) (C.ht _ ha) rfl d rfl (fun w => ?_) (by rw [jI_clamp hr]; omega) (show N * 4 ≤ 536870912 by omega) (by rw [C.hR]; exact hb.1) (by rw [C.hR]; exact hb.2) h1.1 (fun H1 cA e1 z1 o1 hAr hNm => ?_)
  · rw [jI_0, jI_lt hr rgI_0] at w
    omega
  · have hcA : cA = ecI E := by
      have g : (fs F).vm.findClass ("[" ++ (FieldType.int).toString) = some (ecI E) := (C.kn.1.2 0 _ rfl).2
      exact Option.some.inj (hNm.symm.trans g)
    subst hcA
    exact kk H1 locs ls (h1.new z1 e1 o1) (h2.grow (by rw [z1, h1.1]) (by rw [h1.1]; exact o1)) h3
theorem K_newB (C : Cx F E cc own ret rm ml) {n : Int} {N : Nat} (hn : n = (N : Int)) (hN : N < 100000) (ha : Cond.arrayClass .byte ∈ lw_gt) (hb : c0 + 1 ≤ rm.cells ∧ s0 + N ≤ rm.slots) (d : decode cc pc = .ok (.newarray .byte, 2))
    (kk : JW F E Q (c0 + 1) (s0 + N) (z + 1) (updM M z (.inl (ecB E, N, .inl (fun _ => 0)))) (pc + 2) lv (.ref z :: st)) : JW F E Q c0 s0 z M pc lv (.int (jI n) :: st) := by
  intro H locs ls h1 h2 h3
  have hr : rgI n := ⟨by omega, by omega⟩
  refine va_newaK C.hx C.hb (atype := .byte) (C.ht _ ha) rfl d rfl (fun w => ?_) (by rw [jI_clamp hr]; omega) (show N * 1 ≤ 536870912 by omega) (by rw [C.hR]; exact hb.1) (by rw [C.hR]; exact hb.2) h1.1 (fun H1 cA e1 z1 o1 hAr hNm => ?_)
  · rw [jI_0, jI_lt hr rgI_0] at w
    omega
  · have hcA : cA = ecB E := by
      have g : (fs F).vm.findClass ("[" ++ (FieldType.byte).toString) = some (ecB E) := (C.kn.1.2 1 _ rfl).2
      exact Option.some.inj (hNm.symm.trans g)
    subst hcA
    exact kk H1 locs ls (h1.new z1 e1 o1) (h2.grow (by rw [z1, h1.1]) (by rw [h1.1]; exact o1)) h3
end CTOR
