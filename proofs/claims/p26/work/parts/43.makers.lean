/-! methods that make cells; the script; the row 281 -/
def adA (E : ET) (σ : Sg) : Nat → Prop := fun a => rgA E a ∨ eb2 E + (gN σ - 293) ≤ a
theorem adA_le {E : ET} {s σ : Sg} {a : Nat} (h : gN s ≤ gN σ) (ha : adA E σ a) : adA E s a := by
  rcases ha with ha | ha
  · exact Or.inl ha
  · have ha : eb2 E + (gN σ - 293) ≤ a := ha
    exact Or.inr (Nat.le_trans (Nat.add_le_add_left (Nat.sub_le_sub_right h 293) (eb2 E)) ha)
theorem lo_A {E : ET} : ∀ a, rgA E a → eb E ≤ a + 1 := fun a h => by unfold rgA at h; split at h <;> omega
/-- a contract of a method that makes mc cells of ms slots -/
def MetG (l : Launch) (E : ET) (y : MethodName) (cy : ByteArray) (mlc : Nat) (rc : Option FieldType) (rmc : Room) (σ : Sg) (av : List Value) (rq : Option Value → Sg → Prop) (mc ms : Nat) : Prop :=
  Met l y (Cond.code y cy mlc rc :: lw_gt) rmc (va_Pc av (WdE E σ)) (Qcc E (adA E σ) rq mc) mc ms (adA E σ)
theorem MetGJ {l : Launch} {E : ET} {y : MethodName} {cy : ByteArray} {mlc mc ms : Nat} {rc : Option FieldType} {rmc : Room} {σ : Sg} {av : List Value} {rq : Option Value → Sg → Prop} (hy : plainName y.cls = true) (hav : (lg_sl av).length ≤ mlc)
    (h : ∀ F, fl F = l → Cx F E cy y.cls rc rmc mlc → fq F = rq → fA F = adA E σ → fmc F = mc → fms F = ms → (fs F).heap.size = (fs F).heap.size → JJ F E 0 0 σ 0 (lv_args 0 av) []) : MetG l E y cy mlc rc rmc σ av rq mc ms := by
  refine Met.ofW (cc := cy) (maxL := mlc) (ret := rc) hy rfl ?_
  intro p e s m args below meth c s₁ B hml hv
  obtain ⟨rfl, hk, hrep⟩ := hv
  have hts := atoms_spec (ws := Cond.code y cy mlc rc :: lw_gt) B.pre
  have hlo := hk.2.2.2
  have C : Cx (p, l, e, (headSpec (Cond.code y cy mlc rc :: lw_gt) rmc).room, s, m, av.toArray, below, meth, c, mc, ms, adA E σ, mlc, rq) E cy y.cls rc rmc mlc :=
    ⟨B.exec, B.bytes, hml, findClass_of_methodNamed B.named, fun w hw => hts w (List.mem_cons_of_mem _ hw), B.returns, B.notSynchronized, hk, fun _ z => Or.inl z, fun a ha => by
      rcases ha with ha | ha
      · exact lo_A a ha
      · omega, rfl, rfl⟩
  have key := h _ rfl C rfl rfl rfl rfl rfl
  rw [lg_entry_eq]
  exact key s.heap [] _ hrep va_S.rf (lv_entry av hav)
theorem va_S.grow {A : Nat → Prop} {H0 H H1 : Heap} {locs : List Loc} (h : va_S A H0 H locs) (hz : H1.size = H.size + 1) (ho : ∀ b, b < H.size → H1[b]? = H[b]?) : va_S A H0 H1 locs :=
  ⟨Nat.le_trans h.1 (by omega), fun x h1 h2 => (ho x (Nat.lt_of_lt_of_le h1 h.1)).trans (h.2.1 x h1 h2), h.2.2⟩
def qZs (Q : Int → Sg → Prop) : Option Value → Sg → Prop := fun v σ' => ∃ r : Int, v = some (.int (jI r)) ∧ (r = 0 ∨ r = 1) ∧ Q r σ'
section MAKERS
variable {F : FT} {E : ET} {QF : State → Prop} {cc : ByteArray} {own : String} {ret : Option FieldType} {rm : Room} {ml c0 s0 : Nat} {σ : Sg} {pc : Nat} {lv : List (Nat × Value)} {st : List Value}
theorem JQ.widen {c1 s1 : Nat} (hc : c0 ≤ c1) (hs : s0 ≤ s1) (h : JQ F E QF c1 s1 σ pc lv st) : JQ F E QF c0 s0 σ pc lv st := fun H locs ls h1 h2 h3 => W.widen hc hs (h H locs ls h1 h2 h3)
theorem J_VG {y : MethodName} {cy : ByteArray} {mlc n index q mc ms : Nat} {rc : Option FieldType} {rmc : Room} {rq : Option Value → Sg → Prop} {As rest st0 : List Value} (C : Cx F E cc own ret rm ml) (hA : ∀ a, adA E σ a → fA F a) (hM : MetG (fl F) E y cy mlc rc rmc σ (.ref (adE E q) :: As) rq mc ms) (ck : CkE y cy mlc rc n) (hl : Cond.methodLink own index y ∈ lw_gt) (hi : Cond.instanceMethod y ∈ lw_gt) (hse : Cond.selects y.cls y y ∈ lw_gt)
    (hq : dmE E σ q) {ci N : Nat} {vs : List Value} {T : u_T} (hcl : clE E σ q = .inr (ci, vs)) (hc : vwCl[ci]? = some (y.cls, T, N)) (hz : rmc.cells = mc ∧ rmc.slots = ms) (hR : rmc.frames + 1 ≤ rm.frames ∧ 8 + (mlc + 11) + rmc.locals ≤ rm.locals) (hcs : c0 + mc ≤ rm.cells ∧ s0 + ms ≤ rm.slots) (hn : As.length = n) (hst : st0 = As.reverse ++ .ref (adE E q) :: rest) (hW : (rest.map fun v => v.category).sum ≤ 8)
    (d : decode cc pc = .ok (.invokevirtual index, 3)) (kk : ∀ v σ', rq v σ' → JQ F E QF (c0 + mc) (s0 + ms) σ' (pc + 3) lv (v.toList ++ rest)) : JQ F E QF c0 s0 σ pc lv st0 := by
  refine J_run (mc := mc) (ms := ms) (rest := rest) (rq := rq) (A1 := adA E σ) (av := (Value.ref (adE E q) :: As).toArray) hA hA (fun H locs ls h1 h2 h3 => ?_) kk
  have cb : CallB (fR F) (fs F) (fa F) own index y cy mlc rc (Cond.code y cy mlc rc :: lw_gt) rmc mc ms n :=
    callB_of n C.ht (gt_goodIn ck.1) rfl hz.1 hz.2 (C.ht _ ck.2.1) (C.ht _ hl) ck.2.2 (by rw [C.hR]; exact hR)
  exact va_runV (As := As) (rest := rest) (nL := fn F) ⟨C.hx, C.hb, C.hml, C.ho, C.ht⟩ hM ⟨cb, C.ht _ hi, C.ht _ hse⟩ ⟨fun a U g mk h => ⟨h.1, h.2.calling⟩, va_recv (q0 := 0) C.kn.1 (h1.one hq) hc (by rw [hcl]; rfl), fun U hU hW => ⟨rfl, C.kn.to h2 C.lo hW hU, by rw [hU]; exact h1⟩⟩ rfl hn h3.1 hst (lv_room hW) d (by rw [C.hR]; exact hcs)
theorem J_SG {y : MethodName} {cy : ByteArray} {mlc n index mc ms : Nat} {rc : Option FieldType} {rmc : Room} {rq : Option Value → Sg → Prop} {As rest st0 : List Value} (C : Cx F E cc own ret rm ml) (hA : ∀ a, adA E σ a → fA F a) (hM : MetG (fl F) E y cy mlc rc rmc σ As rq mc ms) (ck : CkE y cy mlc rc n) (hl : Cond.methodLink own index y ∈ lw_gt) (hi : Cond.static y ∈ lw_gt)
    (hz : rmc.cells = mc ∧ rmc.slots = ms) (hR : rmc.frames + 1 ≤ rm.frames ∧ 8 + (mlc + 11) + rmc.locals ≤ rm.locals) (hcs : c0 + mc ≤ rm.cells ∧ s0 + ms ≤ rm.slots) (hn : As.length = n) (hst : st0 = As.reverse ++ rest) (hW : (rest.map fun v => v.category).sum ≤ 8)
    (d : decode cc pc = .ok (.invokestatic index, 3)) (kk : ∀ v σ', rq v σ' → JQ F E QF (c0 + mc) (s0 + ms) σ' (pc + 3) lv (v.toList ++ rest)) : JQ F E QF c0 s0 σ pc lv st0 := by
  refine J_run (mc := mc) (ms := ms) (rest := rest) (rq := rq) (A1 := adA E σ) (av := As.toArray) hA hA (fun H locs ls h1 h2 h3 => ?_) kk
  have cb : CallB (fR F) (fs F) (fa F) own index y cy mlc rc (Cond.code y cy mlc rc :: lw_gt) rmc mc ms n :=
    callB_of n C.ht (gt_goodIn ck.1) rfl hz.1 hz.2 (C.ht _ ck.2.1) (C.ht _ hl) ck.2.2 (by rw [C.hR]; exact hR)
  exact va_runS (As := As) (rest := rest) (nL := fn F) ⟨C.hx, C.hb, C.hml, C.ho, C.ht⟩ hM ⟨cb, C.ht _ hi⟩ ⟨fun a U g mk h => ⟨h.1, h.2.calling⟩, fun U hU hW => ⟨rfl, C.kn.to h2 C.lo hW hU, by rw [hU]; exact h1⟩⟩ rfl hn h3.1 hst (lv_room hW) d (by rw [C.hR]; exact hcs)
/-- the script -/
theorem J_scl (C : Cx F E cc own ret rm ml) {sl : Int} (hsl : sl = scL E) (d : decode cc pc = .ok (.arraylength, 1)) (kk : rgI sl → JQ F E QF c0 s0 σ (pc + 1) lv (.int (jI sl) :: st)) : JQ F E QF c0 s0 σ pc lv (.ref (ea E 9) :: st) := fun H locs ls h1 h2 h3 => by
  have hT := C.kn.2.1.2.2.2.2.2.2
  have hr : rgI sl := by
    rw [hsl]
    have := hT.2
    exact ⟨by unfold scL; omega, by unfold scL; omega⟩
  exact va_tlen C.hx C.hb (hT.1.narrow C.lo) h2 (v := jI sl) (by rw [hsl]; exact (Int32.ofInt_eq_ofNat).symm) d (kk hr H locs ls h1 h2 h3)
theorem J_sca (C : Cx F E cc own ret rm ml) {sl : Int} {sx : Int → Int} (hsl : sl = scL E) (hsx : sx = scX E) {x : Int} (g0 : 0 ≤ x) (g1 : x < sl) (d : decode cc pc = .ok (.iaload, 1)) (kk : rgI (sx x) → JQ F E QF c0 s0 σ (pc + 1) lv (.int (jI (sx x)) :: st)) : JQ F E QF c0 s0 σ pc lv (.int (jI x) :: .ref (ea E 9) :: st) := fun H locs ls h1 h2 h3 => by
  have hT := C.kn.2.1.2.2.2.2.2.2
  have hb := hT.2
  rw [hsl] at g1
  have hx : x < (eL E : Int) := g1
  have ev : Value.int (eX E x.toNat) = .int (jI (sx x)) := by
    rw [hsx]
    exact congrArg Value.int (jI_of (eX E x.toNat)).symm
  refine va_ti C.hx C.hb (hT.1.narrow C.lo) h2 (jI_in (n := eL E) (by omega) g0 hx) (v := .int (jI (sx x))) ?_ d (kk (by rw [hsx]; exact rgI_of _) H locs ls h1 h2 h3)
  show Value.int (eX E (jI x).toNatClampNeg) = _
  rw [jI_clamp ⟨by omega, by omega⟩]
  exact ev
/-- the row 281 is there -/
theorem dmY {E : ET} (hs : eS E = true) {s σ : Sg} (hm : eb2 E + (gN s - 293) ≤ em E) (hg : gN σ = gN s) : dmE E σ 281 := by
  unfold dmE
  rw [if_pos hs, hg]
  exact Or.inr (Or.inr ⟨rfl, hm⟩)
theorem J_iastY (C : Cx F E cc own ret rm ml) (hs : eS E = true) (hd : dmE E σ 281) (hAY : fA F (em E)) {x v : Int} (g0 : 0 ≤ x) (g1 : x < 7) (hv : rgI v) (d : decode cc pc = .ok (.iastore, 1)) (kk : JQ F E QF c0 s0 (sI σ 281 x v) (pc + 1) lv st) : JQ F E QF c0 s0 σ pc lv (.int (jI v) :: .int (jI x) :: .ref (adE E 281) :: st) := by
  intro H locs ls h1 h2 h3
  have hcl : ∀ σ : Sg, clE E σ 281 = .inl (ecI E, 7, .inl (fun j => jI (gI σ 281 (j : Int)))) := fun z => clE_k E z kc281
  have hat := h1.1 281 hd
  rw [hcl] at hat
  have hin := jI_in (n := 7) (by decide) g0 g1
  refine W.iast C.hx C.hb hat ((C.kn.1.2 0 _ rfl).1 7 (fun j => .int (jI (gI σ 281 (j : Int))))) (fun z => by cases z) (by show ¬ (jI x < 0 ∨ (arrV _ _ _).slots.size ≤ _); rw [arrV_size]; exact hin) rfl rfl d fun H1 e z oq => ?_
  refine kk H1 _ ls (h1.put C.kn.2.2.2 hd rfl z ?_ oq (fun p hp j => gI_sI_ne hp) (fun _ _ _ => rfl) (fun _ _ => rfl) (h1.2.1.sI 281 x hv)) (h2.put z oq (by rw [adE_Y]; exact hAY)) h3
  rw [hcl]
  show H1[adE E 281]? = some (vp_cell _ _)
  rw [e, vp_cell_i, vp_cell_i, arrV_store]
  congr 2
  exact (jI_upd g0 ⟨by omega, by omega⟩ σ).symm
end MAKERS
/-! one world with the row 281, one without it -/
theorem adE_mE (E : ET) (a : Nat) (z : Bool) {q : Nat} (h : ¬ (279 ≤ q ∧ q < 293)) : adE (mE E a z) q = adE E q := by
  unfold adE
  show (if q < 3 then eb E + q - 1 else if q < 293 then (if q < 279 then eb E + q else a) else eb2 E + (q - 293)) = _
  by_cases h1 : q < 3
  · rw [if_pos h1, if_pos h1]
  · rw [if_neg h1, if_neg h1]
    by_cases h2 : q < 293
    · rw [if_pos h2, if_pos h2, if_pos (by omega), if_pos (by omega)]
    · rw [if_neg h2, if_neg h2]
theorem kd_out {q : Nat} (h : kdO q ≤ 17) : ¬ (279 ≤ q ∧ q < 293) := fun z => by
  have h1 : kdO q = 20 ∨ kdO q = 21 ∨ kdO q = 22 ∨ kdO q = 23 ∨ kdO q = 24 := by
    unfold kdO
    rw [if_neg (by omega), if_neg (by omega), if_neg (by omega), if_neg (by omega), if_neg (by omega), if_neg (by omega), if_neg (by omega)]
    (repeat' split) <;> omega
  omega
theorem okP_out {σ : Sg} {q : Nat} (h : okP σ q) : ¬ (279 ≤ q ∧ q < 293) := kd_out (by rw [h.1]; omega)
theorem clE_mE (E : ET) (a : Nat) (z : Bool) {σ : Sg} (hw : WtE σ) {q : Nat} (h : ¬ (279 ≤ q ∧ q < 293)) : clE (mE E a z) σ q = clE E σ q := by
  have lo : ∀ {r : Nat}, r < 279 → adE (mE E a z) r = adE E r := fun hr => adE_mE E a z (by omega)
  have kd : ∀ {r : Nat}, kdO r ≤ 17 → adE (mE E a z) r = adE E r := fun hr => adE_mE E a z (kd_out hr)
  unfold clE
  generalize hk : kdO q = k
  have hk17 : k ≤ 17 := by
    rw [← hk]
    rcases Nat.lt_or_ge q 279 with g | g
    · exact kdO_lo g
    · rw [kdO_hi (by omega)]
      split <;> omega
  match k, hk with
  | 0, hk => rfl
  | 1, hk => show (Sum.inr (9, [Value.ref (adE (mE E a z) 1), .int (jI (gI σ q 1)), .ref (adE (mE E a z) 4), .ref (adE (mE E a z) 31), .ref (adE (mE E a z) 61)]) : va_E) = _; rw [lo (by omega), lo (by omega), lo (by omega), lo (by omega)]; rfl
  | 2, hk => rfl
  | 3, hk => show (Sum.inr (2, [Value.int (jI (gI σ q 0)), .ref (adE (mE E a z) (q + 1))]) : va_E) = _; rw [kd (by rw [kd3_text hk]; omega)]; rfl
  | 4, hk => rfl
  | 5, hk => show (Sum.inr (5, [Value.ref (adE (mE E a z) (q + 1)), .ref (adE (mE E a z) (q + 4)), .ref (adE (mE E a z) (q + 6)), .ref (adE (mE E a z) (q + 8))]) : va_E) = _; rw [kd (by rw [kd5_cut hk]; omega), kd (by rw [kd5_shots hk]; omega), kd (by rw [kd5_settings hk]; omega), kd (by rw [kd5_track hk]; omega)]; rfl
  | 6, hk => show (Sum.inr (0, [Value.ref (adE (mE E a z) (q + 1)), .ref (adE (mE E a z) (q + 2)), .int (jI (gI σ q 2))]) : va_E) = _; rw [kd (by rw [kd6_firsts hk]; omega), kd (by rw [kd6_lengths hk]; omega)]; rfl
  | 7, hk => rfl
  | 8, hk => show (Sum.inr (4, [Value.ref (adE (mE E a z) (q + 1)), .int (jI (gI σ q 1))]) : va_E) = _; rw [kd (by rw [kd8_frames hk]; omega)]; rfl
  | 9, hk => rfl
  | 10, hk => show (Sum.inr (3, [Value.ref (adE (mE E a z) (q + 1))]) : va_E) = _; rw [kd (by rw [kd10_values hk]; omega)]; rfl
  | 11, hk => rfl
  | 12, hk => show (Sum.inr (7, [Value.ref (adE (mE E a z) (q + 1)), .ref (adE (mE E a z) (q + 18)), .int (jI (gI σ q 2))]) : va_E) = _; rw [kd (by rw [kd12_rows hk]; omega), kd (by rw [kd12_missing hk]; omega)]; rfl
  | 13, hk =>
    show (Sum.inl (ecS E, 16, Sum.inr (Sum.inr (Sum.inr (Sum.inr (fun j : Nat => some (adE (mE E a z) (gR σ q (j : Int)))))))) : va_E) = Sum.inl (ecS E, 16, Sum.inr (Sum.inr (Sum.inr (Sum.inr (fun j : Nat => some (adE E (gR σ q (j : Int))))))))
    have e : (fun j : Nat => some (adE (mE E a z) (gR σ q (j : Int)))) = fun j : Nat => some (adE E (gR σ q (j : Int))) := funext (fun j => by rw [kd (by rw [(hw.2.1 q _).1 hk]; omega)])
    rw [e]
  | 14, hk => show (Sum.inr (6, [Value.int (jI (gI σ q 0)), .int (jI (gI σ q 1)), .int (jI (gI σ q 2)), .ref (adE (mE E a z) (gR σ q 3)), .ref (adE (mE E a z) (gR σ q 4))]) : va_E) = _; rw [adE_mE E a z (okP_out (hw.2.2.1 q hk).1), adE_mE E a z (okP_out (hw.2.2.1 q hk).2)]; rfl
  | 15, hk => show (Sum.inr (8, [Value.ref (adE (mE E a z) 34), .int (jI (gI σ q 1)), .ref (adE (mE E a z) 32), .ref (adE (mE E a z) 33), .int (jI (gI σ q 4))]) : va_E) = _; rw [lo (by omega), lo (by omega), lo (by omega)]; rfl
  | 16, hk => show (Sum.inr (1, [Value.ref (adE (mE E a z) 62), .int (jI (gI σ q 1))]) : va_E) = _; rw [lo (by omega)]; rfl
  | 17, hk =>
    show (Sum.inl (ecT E, 8, Sum.inr (Sum.inr (Sum.inr (Sum.inr (fun j : Nat => some (adE (mE E a z) (gR σ q (j : Int)))))))) : va_E) = Sum.inl (ecT E, 8, Sum.inr (Sum.inr (Sum.inr (Sum.inr (fun j : Nat => some (adE E (gR σ q (j : Int))))))))
    have e : (fun j : Nat => some (adE (mE E a z) (gR σ q (j : Int)))) = fun j : Nat => some (adE E (gR σ q (j : Int))) := funext (fun j => by rw [kd (by rw [(hw.2.1 q _).2 hk]; omega)])
    rw [e]
  | k + 18, hk => exact absurd hk17 (by omega)
/-- what holds with the row holds without it -/
theorem RepE.drop {E : ET} {a : Nat} {z : Bool} {σ : Sg} {H : Heap} (hs : eS E = true) (hb : eb2 E = eb E + 279 ∧ 1 ≤ eb E) (h : RepE (mE E a z) σ H) : RepE (mE E 0 false) σ H := by
  refine ⟨fun q hq => ?_, h.2.1, fun w => by cases w⟩
  have hd : q < 279 ∨ (293 ≤ q ∧ q < gN σ) := by
    unfold dmE at hq
    have hs' : eS (mE E 0 false) = true := hs
    rw [if_pos hs'] at hq
    rcases hq with g | g | ⟨g1, g2⟩
    · exact Or.inl g
    · exact Or.inr g
    · exfalso
      have g2 : eb2 E + (gN σ - 293) ≤ 0 := g2
      omega
  have hq' : dmE (mE E a z) σ q := by
    unfold dmE
    have hs' : eS (mE E a z) = true := hs
    rw [if_pos hs']
    rcases hd with g | g
    · exact Or.inl g
    · exact Or.inr (Or.inl g)
  have hn : ¬ (279 ≤ q ∧ q < 293) := by omega
  have g := h.1 q hq'
  rw [adE_mE E a z hn, clE_mE E a z h.2.1 hn] at g
  rw [adE_mE E 0 false hn, clE_mE E 0 false h.2.1 hn]
  exact g
/-- a new row of seven numbers -/
theorem RepE.many {E : ET} {σ : Sg} {H H1 : Heap} {a : Nat} (hs : eS E = true) (hb : eb2 E = eb E + 279 ∧ 1 ≤ eb E) (h : RepE (mE E 0 false) σ H) (ha : a = H.size) (he : va_at (eD E) vwCl (a, (.inl (ecI E, 7, .inl (fun _ => 0)))) H1) (oq : ∀ b : Nat, b < H.size → H1[b]? = H[b]?) (s0 : Sg) (hs0 : s0 = (fun q j => if q = 281 then 0 else σ.1 q j, σ.2)) : RepE (mE E a false) s0 H1 ∧ eb2 E + (gN σ - 293) ≤ a := by
  subst hs0
  have hw : WtE ((fun q j => if q = 281 then 0 else σ.1 q j, σ.2) : Sg) := by
    refine ⟨fun q j => ?_, h.2.1.2⟩
    show rgI (if q = 281 then 0 else σ.1 q j)
    split
    · exact rgI_0
    · exact h.2.1.1 q j
  have hsz : eb2 E + (gN σ - 293) ≤ a := by
    have n1 := h.2.1.2.2.2.1
    rcases Nat.lt_or_ge 293 (gN σ) with g | g
    · have hd : dmE (mE E 0 false) σ (gN σ - 1) := by
        unfold dmE
        have hs' : eS (mE E 0 false) = true := hs
        rw [if_pos hs']
        exact Or.inr (Or.inl ⟨by omega, by omega⟩)
      have hlt : adE (mE E 0 false) (gN σ - 1) < H.size := (h.1 _ hd).lt
      rw [adE_mE E 0 false (by omega)] at hlt
      unfold adE at hlt
      rw [if_neg (by omega), if_neg (by omega)] at hlt
      omega
    · have hd : dmE (mE E 0 false) σ 278 := by
        unfold dmE
        have hs' : eS (mE E 0 false) = true := hs
        rw [if_pos hs']
        exact Or.inl (by omega)
      have hlt : adE (mE E 0 false) 278 < H.size := (h.1 _ hd).lt
      rw [adE_mE E 0 false (by omega), adE_lo E (by omega)] at hlt
      omega
  refine ⟨⟨fun q hq => ?_, hw, fun w => by cases w⟩, hsz⟩
  by_cases e : q = 281
  · subst e
    have e1 : adE (mE E a false) 281 = a := adE_Y _
    rw [e1, clE_k (mE E a false) _ kc281]
    have e2 : (fun j : Nat => jI (gI ((fun q j => if q = 281 then 0 else σ.1 q j, σ.2) : Sg) 281 (j : Int))) = fun _ => 0 := funext (fun j => by
      show jI (if (281 : Nat) = 281 then 0 else σ.1 281 (j : Int)) = 0
      rw [if_pos rfl]; rfl)
    show va_at (eD E) vwCl (a, (.inl (ecI E, 7, .inl (fun j : Nat => jI (gI ((fun q j => if q = 281 then 0 else σ.1 q j, σ.2) : Sg) 281 (j : Int)))))) H1
    rw [e2]
    exact he
  · have hd : q < 279 ∨ (293 ≤ q ∧ q < gN σ) := by
      unfold dmE at hq
      have hs' : eS (mE E a false) = true := hs
      rw [if_pos hs'] at hq
      rcases hq with g | g | ⟨g1, g2⟩
      · exact Or.inl g
      · exact Or.inr g
      · exact absurd g1 e
    have hq0 : dmE (mE E 0 false) σ q := by
      unfold dmE
      have hs' : eS (mE E 0 false) = true := hs
      rw [if_pos hs']
      rcases hd with g | g
      · exact Or.inl g
      · exact Or.inr (Or.inl g)
    have hn : ¬ (279 ≤ q ∧ q < 293) := by omega
    have g := h.1 q hq0
    have ec : clE (mE E a false) ((fun q j => if q = 281 then 0 else σ.1 q j, σ.2) : Sg) q = clE (mE E 0 false) σ q := by
      rw [clE_mE E a false hw hn, clE_mE E 0 false h.2.1 hn]
      exact clK_congr (fun j => if_neg e) (fun _ => rfl) rfl
    rw [ec, adE_mE E a false hn, ← adE_mE E 0 false hn]
    exact g.kept (oq _ g.lt)
abbrev nmP (σ : Sg) : Sg := (fun q j => if q = 281 then 0 else σ.1 q j, σ.2)
/-- to the method's end, told in the words of E0 -/
abbrev JY (F : FT) (E0 E : ET) (c0 s0 : Nat) (σ : Sg) (pc : Nat) (lv : List (Nat × Value)) (st : List Value) : Prop := JQ F E (MQ (fb F) (Qcc E0 (fA F) (fq F) (fmc F)) (fa F) (fs F) (fmc F) (fms F) (fA F)) c0 s0 σ pc lv st
section MANY
variable {F : FT} {E : ET} {QF : State → Prop} {cc : ByteArray} {own : String} {ret : Option FieldType} {rm : Room} {ml c0 s0 : Nat} {σ : Sg} {pc : Nat} {lv : List (Nat × Value)} {st : List Value}
theorem J_newM (C : Cx F (mE E 0 false) cc own ret rm ml) (hs : eS E = true) (ha : Cond.arrayClass .int ∈ lw_gt) (hb : c0 + 1 ≤ rm.cells ∧ s0 + 7 ≤ rm.slots) (d : decode cc pc = .ok (.newarray .int, 2))
    (kk : ∀ a, eb2 E + (gN σ - 293) ≤ a → JQ F (mE E a false) QF (c0 + 1) (s0 + 7) (nmP σ) (pc + 2) lv (.ref (adE (mE E a false) 281) :: st)) : JQ F (mE E 0 false) QF c0 s0 σ pc lv (.int (jI 7) :: st) := by
  intro H locs ls h1 h2 h3
  have hr : rgI (7 : Int) := ⟨by decide, by decide⟩
  have hc7 : (jI 7).toNatClampNeg = 7 := jI_clamp hr
  refine va_newaK C.hx C.hb (atype := .int) (C.ht _ ha) rfl d rfl (fun w => ?_) hc7 (show 7 * 4 ≤ 536870912 by omega) (by rw [C.hR]; exact hb.1) (by rw [C.hR]; exact hb.2) rfl (fun H1 cA e1 z1 o1 hAr hNm => ?_)
  · rw [jI_0, jI_lt hr rgI_0] at w
    omega
  · have hcA : cA = ecI E := by
      have g : (fs F).vm.findClass ("[" ++ (FieldType.int).toString) = some (ecI E) := (C.kn.1.2 0 _ rfl).2
      exact Option.some.inj (hNm.symm.trans g)
    subst hcA
    obtain ⟨g1, g2⟩ := RepE.many (H1 := H1) (a := H.size) hs C.kn.2.2.2 h1 rfl e1 o1 (nmP σ) rfl
    have eA : adE (mE E H.size false) 281 = H.size := adE_Y _
    have k9 := kk H.size g2
    rw [eA] at k9
    exact k9 H1 locs ls g1 (h2.grow z1 o1) h3
theorem Cx.many (C : Cx F (mE E 0 false) cc own ret rm ml) (a : Nat) : Cx F (mE E a false) cc own ret rm ml := C
theorem J_zretY {E0 : ET} {ty : FieldType} (C : Cx F E cc own (some ty) rm ml) (hcv : ∀ σ H, RepE E σ H → RepE E0 σ H) (hc : c0 ≤ fmc F) (hs : s0 ≤ fms F) {x : Int} (hn : narrow ty (.int (jI x)) = .int (jI x)) (d : decode cc pc = .ok (.ireturn, 1)) (hq : fq F (some (.int (jI x))) σ) : JY F E0 E c0 s0 σ pc lv [.int (jI x)] := fun H locs ls h1 h2 h3 T hT X =>
  W.widen hc hs (W.zret C.hx C.hb C.hr hn (fun t ht hW => ⟨⟨_, σ, rfl, hq, by rw [ht]; exact hcv _ _ h1⟩, h2.F ht, by rw [ht, ← hT]; have h9 := X.heapSize; omega⟩) h2.2.2 d C.hlk) T hT X
end MANY
