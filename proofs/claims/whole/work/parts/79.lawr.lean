/-! the law's rows: both sides' cells in one heap -/
def sdE (E : ET) (x : Bool) : ET := (E.1, E.2.1, x, E.2.2.2)
def IL (E : ET) (σ τ : Sg) (H : Heap) : Prop := RepE E σ H ∧ RepE (sdE E false) τ H ∧ H.size = eb2 E + (gN σ - 293)
def LJ (F : FT) (E : ET) (Q : State → Prop) (c0 s0 : Nat) (σ τ : Sg) (pc : Nat) (lv : List (Nat × Value)) (st : List Value) : Prop :=
  ∀ (H : Heap) (locs : List Loc) (ls : Array Slot), IL E σ τ H → va_S (fA F) (fs F).heap H locs → lv_has ls (fn F) lv → W (fp F) (fl F) (fe F) (fR F) (fs F) (fm F) (fa F) (fb F) (fme F) (fc F) H locs c0 s0 Q (F0 (fm F) pc ls st)
def LC (F : FT) (E : ET) (b L : Nat) (vx : Nat → Int32) : Prop := Cx F E cL_law RL (some .boolean) room_1 4 ∧ Cx F (sdE E false) cL_law RL (some .boolean) room_1 4 ∧ va_X b L vx (fs F) (fs F).heap ∧ b < (fs F).heap.size ∧ ¬ fA F b ∧ (L ≤ 2048 ∧ ∀ a, eb E ≤ a + 1 → fA F a) ∧ eS E = true ∧ eb2 E = eb E + 293
theorem LC.ad {F : FT} {E : ET} {b L : Nat} {vx : Nat → Int32} (C : LC F E b L vx) {σ : Sg} : ∀ a, adA E σ a → fA F a := fun a h => C.2.2.2.2.2.1.2 a (by
  have hb2 := C.2.2.2.2.2.2.2
  rcases h with h | h
  · exact lo_A a h
  · omega)
section LROWS
variable {F : FT} {E : ET} {cc : ByteArray} {own : String} {ret : Option FieldType} {rm : Room} {ml c0 s0 : Nat} {σ τ : Sg} {pc : Nat} {lv : List (Nat × Value)} {st : List Value} {Q : State → Prop}
theorem L_iconst (C : Cx F E cc own ret rm ml) {n : Int} (d : decode cc pc = .ok (.iconst n, 1)) (k : LJ F E Q c0 s0 σ τ (pc + 1) lv (.int (jI n) :: st)) : LJ F E Q c0 s0 σ τ pc lv st := fun H locs ls h1 h2 h3 => lv_iconst C.hx C.hb d rfl (k H locs ls h1 h2 h3)
theorem L_bipush (C : Cx F E cc own ret rm ml) {n : Int} (d : decode cc pc = .ok (.bipush n, 2)) (hv : (Int8.ofInt n).toInt32 = jI n) (k : LJ F E Q c0 s0 σ τ (pc + 2) lv (.int (jI n) :: st)) : LJ F E Q c0 s0 σ τ pc lv st := fun H locs ls h1 h2 h3 => lv_bipush C.hx C.hb d hv (k H locs ls h1 h2 h3)
theorem L_iload_n (C : Cx F E cc own ret rm ml) {kk : Fin 4} {i : Nat} {x : Int32} (d : decode cc pc = .ok (.iload_n kk, 1)) (hi : (kk : Nat) = i) (pl : Nat) (h : lv[pl]? = some (i, .int x)) (k : LJ F E Q c0 s0 σ τ (pc + 1) lv (.int x :: st)) : LJ F E Q c0 s0 σ τ pc lv st := fun H locs ls h1 h2 h3 => lv_iload_n C.hx C.hb d hi (lv_at h3 pl h) (k H locs ls h1 h2 h3)
theorem L_aload_n (C : Cx F E cc own ret rm ml) {kk : Fin 4} {i x : Nat} (d : decode cc pc = .ok (.aload_n kk, 1)) (hi : (kk : Nat) = i) (pl : Nat) (h : lv[pl]? = some (i, .ref x)) (k : LJ F E Q c0 s0 σ τ (pc + 1) lv (.ref x :: st)) : LJ F E Q c0 s0 σ τ pc lv st := fun H locs ls h1 h2 h3 => lv_aload_n C.hx C.hb d hi (lv_at h3 pl h) (k H locs ls h1 h2 h3)
theorem L_istore_n (C : Cx F E cc own ret rm ml) {kk : Fin 4} {i : Nat} {x : Int32} {lv' : List (Nat × Value)} (d : decode cc pc = .ok (.istore_n kk, 1)) (hi : (kk : Nat) = i) (hn : i < ml) (hl : (i, Value.int x) :: lv.filter (fun q => !(q.1 == i) && !(q.1 + 1 == i && q.2.category == 2)) = lv') (k : LJ F E Q c0 s0 σ τ (pc + 1) lv' st) : LJ F E Q c0 s0 σ τ pc lv (.int x :: st) := fun H locs ls h1 h2 h3 => lv_istore_n C.hx C.hb d hi h3 (by rw [C.hn]; exact hn) hl (fun ls' h' => k H locs ls' h1 h2 h')
theorem L_astore_n (C : Cx F E cc own ret rm ml) {kk : Fin 4} {i x : Nat} {lv' : List (Nat × Value)} (d : decode cc pc = .ok (.astore_n kk, 1)) (hi : (kk : Nat) = i) (hn : i < ml) (hl : (i, Value.ref x) :: lv.filter (fun q => !(q.1 == i) && !(q.1 + 1 == i && q.2.category == 2)) = lv') (k : LJ F E Q c0 s0 σ τ (pc + 1) lv' st) : LJ F E Q c0 s0 σ τ pc lv (.ref x :: st) := fun H locs ls h1 h2 h3 => lv_astore_n C.hx C.hb d hi h3 (by rw [C.hn]; exact hn) hl (fun ls' h' => k H locs ls' h1 h2 h')
theorem L_iinc (C : Cx F E cc own ret rm ml) {i : Nat} {n x : Int} {lv' : List (Nat × Value)} (d : decode cc pc = .ok (.iinc i n, 3)) (pl : Nat) (h : lv[pl]? = some (i, .int (jI x))) (hn : i < ml) (hl : (i, Value.int (jI (x + n))) :: lv.filter (fun q => !(q.1 == i) && !(q.1 + 1 == i && q.2.category == 2)) = lv') (k : LJ F E Q c0 s0 σ τ (pc + 3) lv' st) : LJ F E Q c0 s0 σ τ pc lv st := fun H locs ls h1 h2 h3 => lv_iinc C.hx C.hb d h3 h (jI_add x n) (by rw [C.hn]; exact hn) hl (fun ls' h' => k H locs ls' h1 h2 h')
theorem L_dup (C : Cx F E cc own ret rm ml) {va : Value} (d : decode cc pc = .ok (.dup, 1)) (hc : va.category = 1) (k : LJ F E Q c0 s0 σ τ (pc + 1) lv (va :: va :: st)) : LJ F E Q c0 s0 σ τ pc lv (va :: st) := fun H locs ls h1 h2 h3 => lv_dup C.hx C.hb d hc (k H locs ls h1 h2 h3)
theorem L_iadd (C : Cx F E cc own ret rm ml) {x y : Int} (d : decode cc pc = .ok (.iadd, 1)) (k : LJ F E Q c0 s0 σ τ (pc + 1) lv (.int (jI (x + y)) :: st)) : LJ F E Q c0 s0 σ τ pc lv (.int (jI y) :: .int (jI x) :: st) := fun H locs ls h1 h2 h3 => lv_iadd C.hx C.hb d (by rw [jI_add]; exact k H locs ls h1 h2 h3)
theorem L_isub (C : Cx F E cc own ret rm ml) {x y : Int} (d : decode cc pc = .ok (.isub, 1)) (k : LJ F E Q c0 s0 σ τ (pc + 1) lv (.int (jI (x - y)) :: st)) : LJ F E Q c0 s0 σ τ pc lv (.int (jI y) :: .int (jI x) :: st) := fun H locs ls h1 h2 h3 => lv_isub C.hx C.hb d (by rw [jI_sub]; exact k H locs ls h1 h2 h3)
theorem L_iand (C : Cx F E cc own ret rm ml) {x y : Int} (d : decode cc pc = .ok (.iand, 1)) (k : LJ F E Q c0 s0 σ τ (pc + 1) lv (.int (jI (jAnd x y)) :: st)) : LJ F E Q c0 s0 σ τ pc lv (.int (jI y) :: .int (jI x) :: st) := fun H locs ls h1 h2 h3 => lv_iand C.hx C.hb d (by rw [jI_and]; exact k H locs ls h1 h2 h3)
theorem L_goto (C : Cx F E cc own ret rm ml) {off : Int} {tgt : Nat} (d : decode cc pc = .ok (.goto off, 3)) (ht : (pc : Int) + off = (tgt : Int)) (k : LJ F E Q c0 s0 σ τ tgt lv st) : LJ F E Q c0 s0 σ τ pc lv st := fun H locs ls h1 h2 h3 => lv_goto C.hx C.hb d ht (k H locs ls h1 h2 h3)
theorem L_icmp_eq (C : Cx F E cc own ret rm ml) {x y : Int} (hx : rgI x) (hy : rgI y) {off : Int} {tgt : Nat} (d : decode cc pc = .ok (.if_icmp .eq off, 3)) (ht : (pc : Int) + off = (tgt : Int)) (kt : x = y → LJ F E Q c0 s0 σ τ tgt lv st) (kf : ¬ x = y → LJ F E Q c0 s0 σ τ (pc + 3) lv st) : LJ F E Q c0 s0 σ τ pc lv (.int (jI y) :: .int (jI x) :: st) := fun H locs ls h1 h2 h3 => lv_icmp_eq C.hx C.hb d ht (fun q => kt ((jI_eq hx hy).mp q) H locs ls h1 h2 h3) (fun q => kf (fun z => q ((jI_eq hx hy).mpr z)) H locs ls h1 h2 h3)
theorem L_icmp_gt (C : Cx F E cc own ret rm ml) {x y : Int} (hx : rgI x) (hy : rgI y) {off : Int} {tgt : Nat} (d : decode cc pc = .ok (.if_icmp .gt off, 3)) (ht : (pc : Int) + off = (tgt : Int)) (kt : y < x → LJ F E Q c0 s0 σ τ tgt lv st) (kf : ¬ y < x → LJ F E Q c0 s0 σ τ (pc + 3) lv st) : LJ F E Q c0 s0 σ τ pc lv (.int (jI y) :: .int (jI x) :: st) := fun H locs ls h1 h2 h3 => lv_icmp_gt C.hx C.hb d ht (fun q => kt ((jI_lt hy hx).mp q) H locs ls h1 h2 h3) (fun q => kf (fun z => q ((jI_lt hy hx).mpr z)) H locs ls h1 h2 h3)
theorem L_if_eq (C : Cx F E cc own ret rm ml) {x : Int} (hx : rgI x) {off : Int} {tgt : Nat} (d : decode cc pc = .ok (.ifCond .eq off, 3)) (ht : (pc : Int) + off = (tgt : Int)) (kt : x = 0 → LJ F E Q c0 s0 σ τ tgt lv st) (kf : ¬ x = 0 → LJ F E Q c0 s0 σ τ (pc + 3) lv st) : LJ F E Q c0 s0 σ τ pc lv (.int (jI x) :: st) := fun H locs ls h1 h2 h3 => lv_if_eq C.hx C.hb d ht (fun q => kt ((jI_eq hx rgI_0).mp q) H locs ls h1 h2 h3) (fun q => kf (fun z => q ((jI_eq hx rgI_0).mpr z)) H locs ls h1 h2 h3)
theorem L_tswOut (C : Cx F E cc own ret rm ml) {x : Int} (hx : rgI x) {dflt lo hi : Int} {offs : Array Int} {len tgt : Nat} (d : decode cc pc = .ok (.tableswitch dflt lo hi offs, len)) (h : x < lo ∨ hi < x) (ht : (pc : Int) + dflt = (tgt : Int)) (k : LJ F E Q c0 s0 σ τ tgt lv st) : LJ F E Q c0 s0 σ τ pc lv (.int (jI x) :: st) := fun H locs ls h1 h2 h3 => lv_tableOut C.hx C.hb d (by rw [jI_toInt hx]; exact h) ht (k H locs ls h1 h2 h3)
theorem L_tswIn (C : Cx F E cc own ret rm ml) {x v : Int} (hv : x = v) (hr : rgI v) {dflt lo hi off : Int} {offs : Array Int} {len tgt : Nat} (d : decode cc pc = .ok (.tableswitch dflt lo hi offs, len)) (g1 : ¬ v < lo) (g2 : ¬ hi < v) (ho : offs[(v - lo).toNat]? = some off) (ht : (pc : Int) + off = (tgt : Int)) (k : LJ F E Q c0 s0 σ τ tgt lv st) : LJ F E Q c0 s0 σ τ pc lv (.int (jI x) :: st) := fun H locs ls h1 h2 h3 => by
  subst hv
  exact lv_tableIn C.hx C.hb d (by rw [jI_toInt hr]; exact g1) (by rw [jI_toInt hr]; exact g2) (by rw [jI_toInt hr]; exact ho) ht (k H locs ls h1 h2 h3)
theorem LJ.widen {c1 s1 : Nat} (h1 : c0 ≤ c1) (h2 : s0 ≤ s1) (k : LJ F E Q c1 s1 σ τ pc lv st) : LJ F E Q c0 s0 σ τ pc lv st := fun H locs ls a b c => W.widen h1 h2 (k H locs ls a b c)
theorem L_sub (pls : List Nat) {lv' : List (Nat × Value)} (h : lv_pick lv pls = lv') (k : LJ F E Q c0 s0 σ τ pc lv' st) : LJ F E Q c0 s0 σ τ pc lv st := fun H locs ls h1 h2 h3 => k H locs ls h1 h2 (lv_sub h3 pls h)
theorem L_lcmp0 (C : Cx F E cc own ret rm ml) {x y : Int} (h : x = y) (d : decode cc pc = .ok (.lcmp, 1)) (kk : LJ F E Q c0 s0 σ τ (pc + 1) lv (.int (jI 0) :: st)) : LJ F E Q c0 s0 σ τ pc lv (.long (jL y) :: .long (jL x) :: st) := fun H locs ls h1 h2 h3 => by
  refine W.lcmp C.hx C.hb d ?_
  have e : lg_cmp (jL x) (jL y) = jI 0 := by rw [h]; simp [lg_cmp, jI]
  rw [e]
  exact kk H locs ls h1 h2 h3
theorem L_sld {b L : Nat} {vx : Nat → Int32} (C : LC F E b L vx) {x : Int} {j : Nat} (hx : x = (j : Int)) (hj : j < L) (d : decode cL_law pc = .ok (.iaload, 1)) (kk : LJ F E Q c0 s0 σ τ (pc + 1) lv (.int (jI (vx j).toInt) :: st)) : LJ F E Q c0 s0 σ τ pc lv (.int (jI x) :: .ref b :: st) := fun H locs ls h1 h2 h3 => by
  subst hx
  have hL := C.2.2.2.2.2.1.1
  refine va_sld C.1.hx C.1.hb C.2.2.1 C.2.2.2.1 C.2.2.2.2.1 h2 (jI_in (by omega) (by omega) (by omega)) d ?_
  rw [jI_clamp ⟨by omega, by omega⟩, show ((j : Int)).toNat = j from Int.toNat_natCast j, ← jI_of (vx j)]
  exact kk H locs ls h1 h2 h3
theorem L_slen {b L : Nat} {vx : Nat → Int32} (C : LC F E b L vx) (d : decode cL_law pc = .ok (.arraylength, 1)) (kk : LJ F E Q c0 s0 σ τ (pc + 1) lv (.int (jI (L : Int)) :: st)) : LJ F E Q c0 s0 σ τ pc lv (.ref b :: st) := fun H locs ls h1 h2 h3 => by
  refine va_slen C.1.hx C.1.hb C.2.2.1 C.2.2.2.1 C.2.2.2.2.1 h2 d ?_
  have e : Int32.ofNat L = jI (L : Int) := (Int32.ofInt_eq_ofNat).symm
  rw [e]
  exact kk H locs ls h1 h2 h3
theorem qI_n {Q : Int → Sg → Prop} {n : Nat} {v : Option Value} {t : Sg} (h : qI Q n v t) : gN t = n := by
  obtain ⟨r, -, -, -, h⟩ := h
  exact h
theorem qL_n {Q : Int → Sg → Prop} {n : Nat} {v : Option Value} {t : Sg} (h : qL Q n v t) : gN t = n := by
  obtain ⟨r, -, -, h⟩ := h
  exact h
/-- behind a call of the class -/
theorem L_runC {mc ms nn : Nat} {rest st0 : List Value} {A1 : Nat → Prop} {rq : Option Value → Sg → Prop} {av : Array Value} (hA : ∀ q, A1 q → fA F q) (hAm : ∀ a, eb E + 279 ≤ a → a < eb E + 293 → ¬ A1 a)
    (hr : ∀ (H : Heap) (locs : List Loc) (ls : Array Slot), IL E σ τ H → va_S (fA F) (fs F).heap H locs → lv_has ls (fn F) lv → va_Run (fp F) (fl F) (fe F) (fR F) (fs F) (fm F) (fa F) (fb F) (fme F) (fc F) H locs c0 s0 mc ms (F0 (fm F) pc ls st0) rest (Qcc E A1 rq nn av) A1)
    (hz : ∀ v σ' (H H' : Heap), rq v σ' → IL E σ τ H → RepE E σ' H' → H'.size ≤ H.size + nn → H.size ≤ H'.size → H'.size = eb2 E + (gN σ' - 293))
    (kk : ∀ v σ', rq v σ' → LJ F E Q (c0 + mc) (s0 + ms) σ' τ (pc + 3) lv (v.toList ++ rest)) : LJ F E Q c0 s0 σ τ pc lv st0 := by
  intro H locs ls h1 h2 h3 T hT X
  obtain ⟨v, st₀, t, T', L, e0, X', hL, e1, e2, ⟨⟨v', σ', hv, hq, hb⟩, ⟨hzz, hk⟩, hle⟩, go⟩ := hr H locs ls h1 h2 h3 T hT X
  cases hv
  rw [e0] at hzz hk hle
  have h9 := hz v σ' H T'.heap hq h1 (by rw [e1]; exact hb) (by rw [e1]; exact hle) (by rw [e1]; exact hzz)
  have h8 : RepE (sdE E false) τ T'.heap := ⟨fun q hq => by
    have hd : 279 ≤ q ∧ q < 293 := hq
    have ha : adE (sdE E false) q = eb E + q := adE_lo (sdE E false) (by omega)
    have hat := h1.2.1.1 q hq
    refine hat.kept ?_
    show T'.heap[adE (sdE E false) q]? = H[adE (sdE E false) q]?
    rw [e1]
    exact hk _ hat.lt (by rw [ha]; exact hAm _ (by omega) (by omega)), h1.2.1.2⟩
  obtain ⟨t2, a1, b1⟩ := kk v σ' hq T'.heap (locs ++ L) ls ⟨by rw [e1]; exact hb, h8, h9⟩ ⟨Nat.le_trans h2.1 (by rw [e1]; exact hzz), fun q g1 g2 => by
      rw [e1, hk q (Nat.lt_of_lt_of_le g1 h2.1) (fun z => g2 (hA q z))]
      exact h2.2.1 q g1 g2, fun q hq => by
      rcases List.mem_append.mp hq with h | h
      · exact h2.2.2 q h
      · exact hA _ (hL q h)⟩ h3 T' rfl X'
  exact ⟨t2, go t2 a1, b1⟩
/-- behind a call of the reference -/
theorem L_runM {mc ms : Nat} {rest st0 : List Value} {rq : Option Value → Sg → Prop} {av : Array Value} (hs : eS E = true) (hb2 : eb2 E = eb E + 293) (hA : ∀ q, rgA (sdE E false) q → fA F q)
    (hr : ∀ (H : Heap) (locs : List Loc) (ls : Array Slot), IL E σ τ H → va_S (fA F) (fs F).heap H locs → lv_has ls (fn F) lv → va_Run (fp F) (fl F) (fe F) (fR F) (fs F) (fm F) (fa F) (fb F) (fme F) (fc F) H locs c0 s0 mc ms (F0 (fm F) pc ls st0) rest (Qcc (sdE E false) (rgA (sdE E false)) rq 0 av) (rgA (sdE E false)))
    (kk : ∀ v τ', rq v τ' → LJ F E Q (c0 + mc) (s0 + ms) σ τ' (pc + 3) lv (v.toList ++ rest)) : LJ F E Q c0 s0 σ τ pc lv st0 := by
  intro H locs ls h1 h2 h3 T hT X
  obtain ⟨v, st₀, t, T', L, e0, X', hL, e1, e2, ⟨⟨v', τ', hv, hq, hb⟩, ⟨hzz, hk⟩, hle⟩, go⟩ := hr H locs ls h1 h2 h3 T hT X
  cases hv
  rw [e0] at hzz hk hle
  have hAm : ∀ a, ¬ (eb E + 279 ≤ a ∧ a < eb E + 293) → ¬ rgA (sdE E false) a := fun a h z => h z
  have h8 : RepE E σ T'.heap := ⟨fun q hq => by
    have hat := h1.1.1 q hq
    have ha : ¬ (eb E + 279 ≤ adE E q ∧ adE E q < eb E + 293) := by
      unfold dmE at hq
      rw [if_pos hs] at hq
      unfold adE
      (repeat' split) <;> omega
    refine hat.kept ?_
    show T'.heap[adE E q]? = H[adE E q]?
    rw [e1]
    exact hk _ hat.lt (hAm _ ha), h1.1.2⟩
  have h9 : T'.heap.size = eb2 E + (gN σ - 293) := by
    have := h1.2.2
    rw [e1]
    omega
  obtain ⟨t2, a1, b1⟩ := kk v τ' hq T'.heap (locs ++ L) ls ⟨h8, by rw [e1]; exact hb, h9⟩ ⟨Nat.le_trans h2.1 (by rw [e1]; exact hzz), fun q g1 g2 => by
      rw [e1, hk q (Nat.lt_of_lt_of_le g1 h2.1) (fun z => g2 (hA q z))]
      exact h2.2.1 q g1 g2, fun q hq => by
      rcases List.mem_append.mp hq with h | h
      · exact h2.2.2 q h
      · exact hA _ (hL q h)⟩ h3 T' rfl X'
  exact ⟨t2, go t2 a1, b1⟩
theorem L_Vc {y : MethodName} {cy : ByteArray} {mlc n index : Nat} {rc : Option FieldType} {rmc : Room} {rq : Option Value → Sg → Prop} {As rest st0 : List Value} (C : Cx F E cc own ret rm ml) (hs : eS E = true) (hb2 : eb2 E = eb E + 293) (hM : MetE (fl F) E y cy mlc rc rmc σ (.ref (adE E 0) :: As) rq) (ck : CkE y cy mlc rc n) (hl : Cond.methodLink own index y ∈ lw_gt) (hi : Cond.instanceMethod y ∈ lw_gt) (hse : Cond.selects y.cls y y ∈ lw_gt)
    (hc : vwCl[9]? = some (y.cls, TX9, 5)) {vs : List Value} (hcl : clE E σ 0 = .inr (9, vs)) (hz : rmc.cells = 0 ∧ rmc.slots = 0) (hR : rmc.frames + 1 ≤ rm.frames ∧ 8 + (mlc + 11) + rmc.locals ≤ rm.locals) (hcs : c0 ≤ rm.cells ∧ s0 ≤ rm.slots) (hg : ∀ v σ', rq v σ' → gN σ' = gN σ) (hn : As.length = n) (hst : st0 = As.reverse ++ .ref (adE E 0) :: rest) (hW : (rest.map fun v => v.category).sum ≤ 8)
    (d : decode cc pc = .ok (.invokevirtual index, 3)) (kk : ∀ v σ', rq v σ' → LJ F E Q c0 s0 σ' τ (pc + 3) lv (v.toList ++ rest)) : LJ F E Q c0 s0 σ τ pc lv st0 := by
  have hq0 : dmE E σ 0 := wrE_dm (wr_c hs (by decide))
  refine L_runC (mc := 0) (ms := 0) (nn := 0) (rest := rest) (rq := rq) (A1 := rgA E) (av := (Value.ref (adE E 0) :: As).toArray) C.rg (fun a h1 h2 z => ?_) (fun H locs ls h1 h2 h3 => ?_) (fun v σ' H H' hq h1 h2 h3 h4 => ?_) kk
  · unfold rgA at z
    rw [if_pos hs] at z
    omega
  · exact va_runV (As := As) (rest := rest) (nL := fn F) ⟨C.hx, C.hb, C.hml, C.ho, C.ht⟩ hM ⟨C.callB ck hl hz hR, C.ht _ hi, C.ht _ hse⟩ ⟨fun a U g mk h => ⟨h.1, h.2.calling⟩, va_recv (q0 := 0) C.kn.1 (h1.1.one hq0) hc (by rw [hcl]; rfl), fun U hU hW => ⟨rfl, C.kn.to h2 C.lo hW hU, by rw [hU]; exact h1.1⟩⟩ rfl hn h3.1 hst (lv_room hW) d (by rw [C.hR]; exact hcs)
  · have e1 := hg v σ' hq
    have e2 := h1.2.2
    rw [e1]
    omega
theorem L_Vm {y : MethodName} {cy : ByteArray} {mlc n index : Nat} {rc : Option FieldType} {rmc : Room} {rq : Option Value → Sg → Prop} {As rest st0 : List Value} (C : Cx F (sdE E false) cc own ret rm ml) (hs : eS E = true) (hb2 : eb2 E = eb E + 293) (hM : MetE (fl F) (sdE E false) y cy mlc rc rmc τ (.ref (adE E 279) :: As) rq) (ck : CkE y cy mlc rc n) (hl : Cond.methodLink own index y ∈ lw_gt) (hi : Cond.instanceMethod y ∈ lw_gt) (hse : Cond.selects y.cls y y ∈ lw_gt)
    (hc : vwCl[10]? = some (y.cls, TX10, 18)) {vs : List Value} (hcl : clE (sdE E false) τ 279 = .inr (10, vs)) (hz : rmc.cells = 0 ∧ rmc.slots = 0) (hR : rmc.frames + 1 ≤ rm.frames ∧ 8 + (mlc + 11) + rmc.locals ≤ rm.locals) (hcs : c0 ≤ rm.cells ∧ s0 ≤ rm.slots) (hn : As.length = n) (hst : st0 = As.reverse ++ .ref (adE E 279) :: rest) (hW : (rest.map fun v => v.category).sum ≤ 8)
    (d : decode cc pc = .ok (.invokevirtual index, 3)) (kk : ∀ v τ', rq v τ' → LJ F E Q c0 s0 σ τ' (pc + 3) lv (v.toList ++ rest)) : LJ F E Q c0 s0 σ τ pc lv st0 := by
  have hq0 : dmE (sdE E false) τ 279 := wrE_dm (wr_m rfl (by decide) (by decide))
  refine L_runM (mc := 0) (ms := 0) (rest := rest) (rq := rq) (av := (Value.ref (adE E 279) :: As).toArray) hs hb2 C.rg (fun H locs ls h1 h2 h3 => ?_) kk
  exact va_runV (As := As) (rest := rest) (nL := fn F) ⟨C.hx, C.hb, C.hml, C.ho, C.ht⟩ hM ⟨C.callB ck hl hz hR, C.ht _ hi, C.ht _ hse⟩ ⟨fun a U g mk h => ⟨h.1, h.2.calling⟩, va_recv (q0 := 0) C.kn.1 (h1.2.1.one hq0) hc (by rw [hcl]; rfl), fun U hU hW => ⟨rfl, C.kn.to h2 C.lo hW hU, by rw [hU]; exact h1.2.1⟩⟩ rfl hn h3.1 hst (lv_room hW) d (by rw [C.hR]; exact hcs)
theorem L_add {index : Nat} {x1 x2 x3 : Int} {rest : List Value} {Qr : Int → Sg → Prop} (C : Cx F E cc own ret room_1 ml) (hs : eS E = true) (hb2 : eb2 E = eb E + 293) (hM : Met (fl F) yX9_add (Cond.code yX9_add cX9_add 5 (some .int) :: lw_gt) rm_X9_add (va_Pc [.ref (adE E 0), .int (jI x1), .int (jI x2), .int (jI x3)] (fun U => WdE E σ U ∧ U.heap.size = eb2 E + (gN σ - 293))) (Qcc E (adA E σ) (qI Qr (gN σ + 2)) 2) 2 42 (adA E σ)) (hA : ∀ a, adA E σ a → fA F a) (ck : CkE yX9_add cX9_add 5 (some .int) 3) (hl : Cond.methodLink own index yX9_add ∈ lw_gt) (hi : Cond.instanceMethod yX9_add ∈ lw_gt) (hse : Cond.selects yX9_add.cls yX9_add yX9_add ∈ lw_gt)
    (hcs : c0 + 2 ≤ 600000 ∧ s0 + 42 ≤ 7302250) (hW : (rest.map fun v => v.category).sum ≤ 8)
    (d : decode cc pc = .ok (.invokevirtual index, 3)) (kk : ∀ r σ', rgI r → Qr r σ' → LJ F E Q (c0 + 2) (s0 + 42) σ' τ (pc + 3) lv (.int (jI r) :: rest)) : LJ F E Q c0 s0 σ τ pc lv (.int (jI x3) :: .int (jI x2) :: .int (jI x1) :: .ref (adE E 0) :: rest) := by
  have hq0 : dmE E σ 0 := wrE_dm (wr_c hs (by decide))
  refine L_runC (mc := 2) (ms := 42) (nn := 2) (rest := rest) (rq := qI Qr (gN σ + 2)) (A1 := adA E σ) (av := [Value.ref (adE E 0), .int (jI x1), .int (jI x2), .int (jI x3)].toArray) hA (fun a h1 h2 z => ?_) (fun H locs ls h1 h2 h3 => ?_) (fun v σ' H H' hq h1 h2 h3 h4 => ?_) ?_
  · unfold adA rgA at z
    rw [if_pos hs] at z
    omega
  · have cb : CallB (fR F) (fs F) (fa F) own index yX9_add cX9_add 5 (some .int) (Cond.code yX9_add cX9_add 5 (some .int) :: lw_gt) rm_X9_add 2 42 3 :=
      callB_of 3 C.ht (gt_goodIn ck.1) rfl rfl rfl (C.ht _ ck.2.1) (C.ht _ hl) ck.2.2 (by rw [C.hR]; decide)
    exact va_runV (As := [.int (jI x1), .int (jI x2), .int (jI x3)]) (rest := rest) (nL := fn F) ⟨C.hx, C.hb, C.hml, C.ho, C.ht⟩ hM ⟨cb, C.ht _ hi, C.ht _ hse⟩ ⟨fun a U g mk h => ⟨h.1, h.2.1.calling, h.2.2⟩, va_recv (q0 := 0) (ci := 9) (q := (RX9, TX9, 5)) C.kn.1 (h1.1.one hq0) rfl (by rw [clE_k E σ kc0]; rfl), fun U hU hW => ⟨rfl, ⟨C.kn.to h2 C.lo hW hU, by rw [hU]; exact h1.1⟩, by rw [hU]; exact h1.2.2⟩⟩ rfl rfl h3.1 rfl (lv_room hW) d (by rw [C.hR]; exact hcs)
  · have e1 := qI_n hq
    have e2 := h1.2.2
    have e3 := h1.1.2.2.2.2.1
    have hd : dmE E σ' (gN σ + 1) := by
      unfold dmE
      rw [if_pos hs]
      exact Or.inr ⟨by omega, by omega⟩
    have hlt := (h2.1 _ hd).lt
    have ha : adE E (gN σ + 1) = eb2 E + (gN σ + 1 - 293) := by unfold adE; rw [if_neg (by omega), if_neg (by omega)]
    have hlt2 : adE E (gN σ + 1) < H'.size := hlt
    rw [ha] at hlt2
    rw [e1]
    omega
  · rintro v σ' ⟨r, rfl, g1, g2, g3⟩
    exact kk r σ' g1 g2
theorem L_kI {Qr : Int → Sg → Prop} {n : Nat} {rest : List Value} (k : ∀ (r : Int) (σ' : Sg), rgI r → Qr r σ' → gN σ' = n → LJ F E Q c0 s0 σ' τ pc lv (.int (jI r) :: rest)) : ∀ v σ', qI Qr n v σ' → LJ F E Q c0 s0 σ' τ pc lv (v.toList ++ rest) := by
  rintro v σ' ⟨r, rfl, h1, h2, h3⟩
  exact k r σ' h1 h2 h3
theorem L_pI {Qr : Int → Prop} {n : Nat} {rest : List Value} (k : ∀ r : Int, rgI r → Qr r → LJ F E Q c0 s0 σ τ pc lv (.int (jI r) :: rest)) : ∀ v σ', qI (fun r t => Qr r ∧ t = σ) n v σ' → LJ F E Q c0 s0 σ' τ pc lv (v.toList ++ rest) := by
  rintro v σ' ⟨r, rfl, h1, ⟨h2, h4⟩, h3⟩
  rw [h4]
  exact k r h1 h2
theorem L_kL {Qr : Int → Sg → Prop} {n : Nat} {rest : List Value} (k : ∀ (r : Int) (σ' : Sg), Qr r σ' → gN σ' = n → LJ F E Q c0 s0 σ' τ pc lv (.long (jL r) :: rest)) : ∀ v σ', qL Qr n v σ' → LJ F E Q c0 s0 σ' τ pc lv (v.toList ++ rest) := by
  rintro v σ' ⟨r, rfl, h2, h3⟩
  exact k r σ' h2 h3
theorem L_kIm {Qr : Int → Sg → Prop} {n : Nat} {rest : List Value} (k : ∀ (r : Int) (τ' : Sg), rgI r → Qr r τ' → gN τ' = n → LJ F E Q c0 s0 σ τ' pc lv (.int (jI r) :: rest)) : ∀ v τ', qI Qr n v τ' → LJ F E Q c0 s0 σ τ' pc lv (v.toList ++ rest) := by
  rintro v τ' ⟨r, rfl, h1, h2, h3⟩
  exact k r τ' h1 h2 h3
theorem L_pIm {Qr : Int → Prop} {n : Nat} {rest : List Value} (k : ∀ r : Int, rgI r → Qr r → LJ F E Q c0 s0 σ τ pc lv (.int (jI r) :: rest)) : ∀ v τ', qI (fun r t => Qr r ∧ t = τ) n v τ' → LJ F E Q c0 s0 σ τ' pc lv (v.toList ++ rest) := by
  rintro v τ' ⟨r, rfl, h1, ⟨h2, h4⟩, h3⟩
  rw [h4]
  exact k r h1 h2
theorem L_kLm {Qr : Int → Sg → Prop} {n : Nat} {rest : List Value} (k : ∀ (r : Int) (τ' : Sg), Qr r τ' → gN τ' = n → LJ F E Q c0 s0 σ τ' pc lv (.long (jL r) :: rest)) : ∀ v τ', qL Qr n v τ' → LJ F E Q c0 s0 σ τ' pc lv (v.toList ++ rest) := by
  rintro v τ' ⟨r, rfl, h2, h3⟩
  exact k r τ' h2 h3
end LROWS
