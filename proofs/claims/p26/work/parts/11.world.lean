/-! THE WORLD: the environment (where the cells begin, class numbers, where strings and tables lie), cells, the tables' facts -/
/-- base, base of the parts, is it the class's side, class numbers and slots, the arrays' classes (int, byte, Subtitle, State), addresses of strings 0..2, of their bytes 3..5, of tables 6..8 -/
abbrev ET : Type := Nat × Nat × Bool × va_G × ClassId × ClassId × ClassId × ClassId × (Nat → Nat) × (Nat × (Nat → Int32)) × Nat × Bool
abbrev eb (E : ET) : Nat := E.1
abbrev eb2 (E : ET) : Nat := E.2.1
abbrev eS (E : ET) : Bool := E.2.2.1
abbrev eD (E : ET) : va_G := E.2.2.2.1
abbrev ecI (E : ET) : ClassId := E.2.2.2.2.1
abbrev ecB (E : ET) : ClassId := E.2.2.2.2.2.1
abbrev ecS (E : ET) : ClassId := E.2.2.2.2.2.2.1
abbrev ecT (E : ET) : ClassId := E.2.2.2.2.2.2.2.1
abbrev ea (E : ET) : Nat → Nat := E.2.2.2.2.2.2.2.2.1
/-- the script: its length, its numbers; it lies at ea E 9 -/
abbrev eL (E : ET) : Nat := E.2.2.2.2.2.2.2.2.2.1.1
abbrev eX (E : ET) : Nat → Int32 := E.2.2.2.2.2.2.2.2.2.1.2
/-- where the row 281 lies, if there is one -/
abbrev em (E : ET) : Nat := E.2.2.2.2.2.2.2.2.2.2.1
/-- is the heap's size told? -/
abbrev eZ (E : ET) : Bool := E.2.2.2.2.2.2.2.2.2.2.2
def scL (E : ET) : Int := (eL E : Int)
def scX (E : ET) : Int → Int := fun j => (eX E j.toNat).toInt
def mE (E : ET) (a : Nat) (z : Bool) : ET := (E.1, E.2.1, E.2.2.1, E.2.2.2.1, E.2.2.2.2.1, E.2.2.2.2.2.1, E.2.2.2.2.2.2.1, E.2.2.2.2.2.2.2.1, E.2.2.2.2.2.2.2.2.1, E.2.2.2.2.2.2.2.2.2.1, a, z)
/-- the first three cells lie one place lower: behind them lies an empty row that nobody holds -/
def adE (E : ET) (q : Nat) : Nat := if q < 3 then eb E + q - 1 else if q < 293 then (if q < 279 then eb E + q else em E) else eb2 E + (q - 293)
/-- the cells of a side -/
def dmE (E : ET) (σ : Sg) (q : Nat) : Prop := if eS E = true then q < 279 ∨ (293 ≤ q ∧ q < gN σ) ∨ (q = 281 ∧ eb2 E + (gN σ - 293) ≤ em E) else False
/-- those of them that are written -/
def wrE (E : ET) (q : Nat) : Prop := if eS E = true then q < 279 else False
/-- the region of those -/
def rgA (E : ET) : Nat → Prop := fun a => if eS E = true then eb E ≤ a + 1 ∧ a < eb E + 279 else eb E + 279 ≤ a ∧ a < eb E + 293
def clK (E : ET) (σ : Sg) (q : Nat) : Nat → va_E
  | 1 => .inr (9, [.ref (adE E 1), .int (jI (gI σ q 1)), .ref (adE E 4), .ref (adE E 31), .ref (adE E 61)])
  | 2 => .inl (ecB E, 40, .inl (fun j => jI (gI σ q (j : Int))))
  | 3 => .inr (2, [.int (jI (gI σ q 0)), .ref (adE E (q + 1))])
  | 4 => .inl (ecB E, (gL σ q).toNat, .inl (fun j => jI (gI σ q (j : Int))))
  | 5 => .inr (5, [.ref (adE E (q + 1)), .ref (adE E (q + 4)), .ref (adE E (q + 6)), .ref (adE E (q + 8))])
  | 6 => .inr (0, [.ref (adE E (q + 1)), .ref (adE E (q + 2)), .int (jI (gI σ q 2))])
  | 7 => .inl (ecI E, 10, .inl (fun j => jI (gI σ q (j : Int))))
  | 8 => .inr (4, [.ref (adE E (q + 1)), .int (jI (gI σ q 1))])
  | 9 => .inl (ecI E, 20, .inl (fun j => jI (gI σ q (j : Int))))
  | 10 => .inr (3, [.ref (adE E (q + 1))])
  | 11 => .inl (ecI E, 5, .inl (fun j => jI (gI σ q (j : Int))))
  | 12 => .inr (7, [.ref (adE E (q + 1)), .ref (adE E (q + 18)), .int (jI (gI σ q 2))])
  | 13 => .inl (ecS E, 16, .inr (.inr (.inr (.inr (fun j => some (adE E (gR σ q (j : Int))))))))
  | 14 => .inr (6, [.int (jI (gI σ q 0)), .int (jI (gI σ q 1)), .int (jI (gI σ q 2)), .ref (adE E (gR σ q 3)), .ref (adE E (gR σ q 4))])
  | 15 => .inr (8, [.ref (adE E 34), .int (jI (gI σ q 1)), .ref (adE E 32), .ref (adE E 33), .int (jI (gI σ q 4))])
  | 16 => .inr (1, [.ref (adE E 62), .int (jI (gI σ q 1))])
  | 17 => .inl (ecT E, 8, .inr (.inr (.inr (.inr (fun j => some (adE E (gR σ q (j : Int))))))))
  | 20 => .inr (10, [.ref (adE E 280), .int (jI (gI σ q 1)), .ref (adE E 281), .int (jI (gI σ q 3)), .ref (adE E 282), .ref (adE E 283), .ref (adE E 284), .ref (adE E 285), .ref (adE E 286), .int (jI (gI σ q 9)), .ref (adE E 287), .ref (adE E 288), .ref (adE E 289), .ref (adE E 290), .ref (adE E 291), .ref (adE E 292), .int (jI (gI σ q 16)), .int (jI (gI σ q 17))])
  | 21 => .inl (ecI E, 12960, .inl (fun j => jI (gI σ q (j : Int))))
  | 22 => .inl (ecI E, 7, .inl (fun j => jI (gI σ q (j : Int))))
  | 23 => .inl (ecI E, 16, .inl (fun j => jI (gI σ q (j : Int))))
  | 24 => .inl (ecI E, 1344, .inl (fun j => jI (gI σ q (j : Int))))
  | _ => .inl (ecI E, 0, .inl (fun _ => 0))
def clE (E : ET) (σ : Sg) (q : Nat) : va_E := clK E σ q (kdO q)
theorem clE_k (E : ET) (σ : Sg) {q k : Nat} (h : kdO q = k) : clE E σ q = clK E σ q k := by rw [clE, h]
theorem clK_congr {E : ET} {σ σ' : Sg} {q k : Nat} (h1 : ∀ j, gI σ' q j = gI σ q j) (h2 : ∀ j, gR σ' q j = gR σ q j) (h3 : gL σ' q = gL σ q) : clK E σ' q k = clK E σ q k := by
  unfold clK
  simp only [h1, h2, h3]
def okP (σ : Sg) (q : Nat) : Prop := kdO q = 3 ∧ q < gN σ
/-- what holds of the numbers themselves -/
def WtE (σ : Sg) : Prop := (∀ q j, rgI (gI σ q j)) ∧ (∀ q j, (kdO q = 13 → kdO (gR σ q j) = 14) ∧ (kdO q = 17 → kdO (gR σ q j) = 5)) ∧ (∀ q, kdO q = 14 → okP σ (gR σ q 3) ∧ okP σ (gR σ q 4)) ∧ 293 ≤ gN σ ∧ gN σ % 2 = 1 ∧ ∀ q, 0 ≤ gL σ q ∧ gL σ q ≤ 40
/-- the heap holds the cells of a side -/
def RepE (E : ET) (σ : Sg) (H : Heap) : Prop := (∀ q, dmE E σ q → va_at (eD E) vwCl (adE E q, clE E σ q) H) ∧ WtE σ ∧ (eZ E = true → H.size = eb2 E + (gN σ - 293))
def tabE (k j : Nat) : Int := if k = 6 then [1, 1, 0, 0, 8].getD j 0 else if k = 7 then [20, 200, 50, 50, 40].getD j 0 else [2, 24, 2, 6, 16].getD j 0
def lenJ : List Nat := [3, 2, 3]
def bytJ : List (List Int32) := [[97, 110, 100], [111, 114], [98, 117, 116]]
/-- static fields and string constants: nobody writes them -/
def StE (E : ET) (U : State) (H : Heap) : Prop :=
  (va_Z "CutConformer" "LOWEST" "[I" (.ref (ea E 6)) (fun a => eb E ≤ a + 1) U H ∧ va_T .int (ea E 6) 5 (fun j => .int (jI (tabE 6 j))) (fun a => eb E ≤ a + 1) U H) ∧
  (va_Z "CutConformer" "HIGHEST" "[I" (.ref (ea E 7)) (fun a => eb E ≤ a + 1) U H ∧ va_T .int (ea E 7) 5 (fun j => .int (jI (tabE 7 j))) (fun a => eb E ≤ a + 1) U H) ∧
  (va_Z "CutConformer" "AT_FIRST" "[I" (.ref (ea E 8)) (fun a => eb E ≤ a + 1) U H ∧ va_T .int (ea E 8) 5 (fun j => .int (jI (tabE 8 j))) (fun a => eb E ≤ a + 1) U H) ∧
  vk_S 3 lenJ bytJ (fun i => ea E i) (fun i => ea E (3 + i)) (fun a => eb E ≤ a + 1) U H ∧
  va_Z "java/lang/String" "COMPACT_STRINGS" "Z" (.int 1) (fun a => eb E ≤ a + 1) U H ∧
  va_Zq "jdk/internal/util/Preconditions" "SIOOBE_FORMATTER" "Ljava/util/function/BiFunction;" (fun a => eb E ≤ a + 1) U H ∧
  (va_T .int (ea E 9) (eL E) (fun j => .int (eX E j)) (fun a => eb E ≤ a + 1) U H ∧ eL E ≤ 260)
/-- words of nest mates and of arrays of objects, which no caller may hand on -/
def NwE (U : State) : Prop := va_Nw (.fieldLinkNest "CutConformer$Settings" 7 "CutConformer" "AT_FIRST" "[I" "CutConformer") U ∧ va_Nw (.fieldLinkNest "CutConformer$Settings" 24 "CutConformer" "LOWEST" "[I" "CutConformer") U ∧ va_Nw (.fieldLinkNest "CutConformer$Settings" 27 "CutConformer" "HIGHEST" "[I" "CutConformer") U ∧
  va_Nw (.methodLinkNest "CutConformer$State" 11 ⟨"CutConformer$Cut", "<init>", "()V"⟩ "CutConformer") U ∧ va_Nw (.methodLinkNest "CutConformer$State" 20 ⟨"CutConformer$Shots", "<init>", "()V"⟩ "CutConformer") U ∧ va_AO "CutConformer$Subtitle" U ∧ va_AO "CutConformer$State" U
theorem NwE.warm {s U : State} (hW : s.WarmedH U.vm) (h : NwE s) : NwE U := by
  obtain ⟨a, b, c, d, e, f, g⟩ := h
  exact ⟨a.warmF hW, b.warmF hW, c.warmF hW, d.warmM hW, e.warmM hW, f.moved hW.alike, g.moved hW.alike⟩
theorem NwE.same {u U : State} (hv : u.vm = U.vm) (h : NwE u) : NwE U := by
  obtain ⟨a, b, c, d, e, f, g⟩ := h
  have hA : u.vm.Alike U.vm := hv ▸ Vm.Alike.refl u.vm
  exact ⟨a.same rfl hv, b.same rfl hv, c.same rfl hv, d.same rfl hv, e.same rfl hv, f.moved hA, g.moved hA⟩
def StrE (E : ET) (U : State) : Prop := vk_R "CutConformer$Part" 44 "and" (ea E 0) U ∧ vk_R "CutConformer$Part" 50 "or" (ea E 1) U ∧ vk_R "CutConformer$Part" 52 "but" (ea E 2) U ∧ NwE U
theorem StE.moved {E : ET} {u U : State} {H : Heap} (hvm : u.vm.Alike U.vm) (h : StE E u H) : StE E U H := by
  obtain ⟨⟨a1, a2⟩, ⟨b1, b2⟩, ⟨c1, c2⟩, d, e, f, g, g2⟩ := h
  exact ⟨⟨a1.moved hvm, a2.moved hvm⟩, ⟨b1.moved hvm, b2.moved hvm⟩, ⟨c1.moved hvm, c2.moved hvm⟩, d.moved hvm, e.moved hvm, f.moved hvm, g.moved hvm, g2⟩
theorem StE.kept {E : ET} {U : State} {H H1 : Heap} (h : StE E U H) (hq : ∀ a : Nat, a < H.size → ¬ eb E ≤ a + 1 → H1[a]? = H[a]?) : StE E U H1 := by
  obtain ⟨⟨a1, a2⟩, ⟨b1, b2⟩, ⟨c1, c2⟩, d, e, f, g, g2⟩ := h
  exact ⟨⟨a1.kept hq, a2.kept hq⟩, ⟨b1.kept hq, b2.kept hq⟩, ⟨c1.kept hq, c2.kept hq⟩, d.kept hq, e.kept hq, f.kept hq, g.kept hq, g2⟩
def tysE (E : ET) : List (ClassId × FieldType) := [(ecI E, .int), (ecB E, .byte), (ecS E, .object "CutConformer$Subtitle"), (ecT E, .object "CutConformer$State")]
/-- what is known of a state's tables and of the cells below the base -/
def KnE (E : ET) (U : State) : Prop := va_K (eD E) vwCl (tysE E) U ∧ StE E U U.heap ∧ StrE E U ∧ eb2 E = eb E + 279 ∧ 1 ≤ eb E
theorem KnE.to {E : ET} {s U : State} {H : Heap} {A : Nat → Prop} {locs : List Loc} (h : KnE E s) (hS : va_S A s.heap H locs) (hA : ∀ a, A a → eb E ≤ a + 1) (hW : s.WarmedH U.vm) (hU : U.heap = H) : KnE E U := by
  obtain ⟨h1, h2, ⟨r1, r2, r3, r4⟩, h3⟩ := h
  refine ⟨h1.moved hW.alike, ?_, ⟨r1.warm hW, r2.warm hW, r3.warm hW, r4.warm hW⟩, h3⟩
  rw [hU]
  exact (h2.moved hW.alike).kept (fun a g1 g2 => hS.2.1 a g1 (fun z => g2 (hA a z)))
/-- a method's start -/
def WdE (E : ET) (σ : Sg) (U : State) : Prop := KnE E U ∧ RepE E σ U.heap
theorem WdE.calling {E : ET} {σ : Sg} {U : State} {g : JFrame} {mk : MethodId} {a : Array Value} (h : WdE E σ U) : WdE E σ (U.calling g mk a) := by
  obtain ⟨⟨h1, h2, ⟨r1, r2, r3, r4⟩, h3⟩, h4⟩ := h
  exact ⟨⟨va_K.moved (u := U) (U := U.calling g mk a) (Vm.Alike.refl U.vm) h1, StE.moved (u := U) (U := U.calling g mk a) (Vm.Alike.refl U.vm) h2, ⟨vk_R.same (u := U) rfl r1, vk_R.same (u := U) rfl r2, vk_R.same (u := U) rfl r3, NwE.same (u := U) rfl r4⟩, h3⟩, h4⟩
theorem adE_lo (E : ET) {q : Nat} (h : 3 ≤ q ∧ q < 279) : adE E q = eb E + q := by
  unfold adE
  rw [if_neg (by omega), if_pos (by omega), if_pos h.2]
theorem adE_Y (E : ET) : adE E 281 = em E := by
  unfold adE
  rw [if_neg (by omega), if_pos (by omega), if_neg (by omega)]
theorem adE_0 (E : ET) : adE E 0 = eb E - 1 := by
  unfold adE
  rw [if_pos (by omega)]
  omega
theorem adE_1 (E : ET) : adE E 1 = eb E := by
  unfold adE
  rw [if_pos (by omega)]
  omega
theorem adE_2 (E : ET) : adE E 2 = eb E + 1 := by
  unfold adE
  rw [if_pos (by omega)]
  omega
theorem adE_inj {E : ET} {σ : Sg} {p q : Nat} (h : eb2 E = eb E + 279 ∧ 1 ≤ eb E) (hp : dmE E σ p) (hq : dmE E σ q) (e : adE E p = adE E q) : p = q := by
  unfold dmE at hp hq
  unfold adE at e
  cases hs : eS E with
  | true =>
    rw [if_pos hs] at hp hq
    obtain ⟨hb, hb1⟩ := h
    (repeat' split at e) <;> omega
  | false =>
    rw [if_neg (by rw [hs]; decide)] at hp hq
    exact hp.elim
theorem wrE_dm {E : ET} {σ : Sg} {q : Nat} (h : wrE E q) : dmE E σ q := by
  unfold wrE at h
  unfold dmE
  split
  · rename_i hs
    rw [if_pos hs] at h
    exact Or.inl h
  · rename_i hs
    rw [if_neg hs] at h
    exact h
theorem wrE_rg {E : ET} {q : Nat} (h : wrE E q) : rgA E (adE E q) := by
  unfold wrE at h
  unfold rgA
  split
  · rename_i hs
    rw [if_pos hs] at h
    unfold adE
    (repeat' split) <;> omega
  · rename_i hs
    rw [if_neg hs] at h
    exact h.elim
theorem wr_c {E : ET} (hs : eS E = true) {q : Nat} (h : q < 279) : wrE E q := by unfold wrE; rw [if_pos hs]; exact h
theorem dm_p {E : ET} {σ : Sg} (hs : eS E = true) {q : Nat} (h : okP σ q) : dmE E σ q := by
  unfold dmE
  rw [if_pos hs]
  rcases Nat.lt_or_ge q 279 with g | g
  · exact Or.inl g
  · refine Or.inr (Or.inl ⟨?_, h.2⟩)
    rcases Nat.lt_or_ge q 293 with g2 | g2
    · exfalso
      have h1 := h.1
      unfold kdO at h1
      rw [if_neg (by omega), if_neg (by omega), if_neg (by omega), if_neg (by omega), if_neg (by omega), if_neg (by omega), if_neg (by omega)] at h1
      (repeat' split at h1) <;> omega
    · exact g2
theorem okP_lo {σ : Sg} {q : Nat} (h : okP σ q) : q = 2 ∨ (293 ≤ q ∧ q % 2 = 1) := by
  have h1 := h.1
  rcases Nat.lt_or_ge q 293 with g | g
  · have b1 := kbO_in (q - 4)
    have b2 := kbO_in (q - 34)
    have b3 := kbO_in ((q - 63) % 27)
    unfold kdO at h1
    rcases Nat.lt_or_ge q 4 with g4 | g4
    · rw [if_pos g4] at h1
      omega
    · rw [if_neg (by omega)] at h1
      (repeat' split at h1) <;> omega
  · rw [kdO_hi g] at h1
    split at h1 <;> omega
theorem dm_t {E : ET} {σ : Sg} (hs : eS E = true) (hw : WtE σ) {q : Nat} (h : okP σ q) : dmE E σ (q + 1) := by
  unfold dmE
  rw [if_pos hs]
  have h2 := h.2
  have h5 := hw.2.2.2.2.1
  rcases okP_lo h with rfl | ⟨g1, g2⟩
  · exact Or.inl (by omega)
  · exact Or.inr (Or.inl ⟨by omega, by omega⟩)
/-- one written cell: the rest stays -/
theorem RepE.put {E : ET} {σ σ' : Sg} {H H1 : Heap} {q : Nat} (h : RepE E σ H) (hb : eb2 E = eb E + 279 ∧ 1 ≤ eb E) (hq : dmE E σ q) (hn : gN σ' = gN σ) (hz : H1.size = H.size) (he : va_at (eD E) vwCl (adE E q, clE E σ' q) H1) (oq : ∀ a : Nat, a ≠ adE E q → H1[a]? = H[a]?)
    (h1 : ∀ p, p ≠ q → ∀ j, gI σ' p j = gI σ p j) (h2 : ∀ p, p ≠ q → ∀ j, gR σ' p j = gR σ p j) (h3 : ∀ p, p ≠ q → gL σ' p = gL σ p) (hw : WtE σ') : RepE E σ' H1 := by
  refine ⟨fun p hp => ?_, hw, fun w => by rw [hz, hn]; exact h.2.2 w⟩
  by_cases e : p = q
  · subst e
    exact he
  · have hp' : dmE E σ p := by unfold dmE at hp ⊢; rw [hn] at hp; exact hp
    have e1 : clE E σ' p = clE E σ p := clK_congr (h1 p e) (h2 p e) (h3 p e)
    rw [e1]
    exact (h.1 p hp').kept (oq _ (fun z => e (adE_inj hb hp' hq z)))
theorem WtE.sI {σ : Sg} (h : WtE σ) (q : Nat) (j : Int) {v : Int} (hv : rgI v) : WtE (sI σ q j v) := by
  refine ⟨fun a b => ?_, h.2⟩
  rw [gI_sI]
  split
  · exact hv
  · exact h.1 a b
theorem WtE.sC {σ : Sg} (h : WtE σ) (q0 : Nat) (sp : Int) (q1 : Nat) (dp n : Int) : WtE (sC σ q0 sp q1 dp n) := by
  refine ⟨fun a b => ?_, h.2⟩
  rw [gI_sC]
  split
  · exact h.1 _ _
  · exact h.1 a b
theorem WtE.sRow {σ : Sg} (h : WtE σ) {q : Nat} (j : Int) {v : Nat} (hq : kdO q = 13) (hv : kdO v = 14) : WtE (sR σ q j v) := by
  refine ⟨h.1, fun a b => ?_, fun a ha => ?_, h.2.2.2⟩
  · rw [gR_sR]
    split
    · rename_i z
      exact ⟨fun _ => hv, fun ha => by rw [z.1, hq] at ha; omega⟩
    · exact h.2.1 a b
  · have hne : a ≠ q := fun z => by rw [z, hq] at ha; omega
    rw [gR_sR_ne hne, gR_sR_ne hne]
    exact h.2.2.1 a ha
theorem WtE.sSta {σ : Sg} (h : WtE σ) {q : Nat} (j : Int) {v : Nat} (hq : kdO q = 17) (hv : kdO v = 5) : WtE (sR σ q j v) := by
  refine ⟨h.1, fun a b => ?_, fun a ha => ?_, h.2.2.2⟩
  · rw [gR_sR]
    split
    · rename_i z
      exact ⟨fun ha => by rw [z.1, hq] at ha; omega, fun _ => hv⟩
    · exact h.2.1 a b
  · have hne : a ≠ q := fun z => by rw [z, hq] at ha; omega
    rw [gR_sR_ne hne, gR_sR_ne hne]
    exact h.2.2.1 a ha
theorem WtE.sPart {σ : Sg} (h : WtE σ) {q : Nat} (j : Int) {v : Nat} (hq : kdO q = 14) (hv : okP σ v) : WtE (sR σ q j v) := by
  refine ⟨h.1, fun a b => ?_, fun a ha => ?_, h.2.2.2⟩
  · refine ⟨fun ha => ?_, fun ha => ?_⟩
    · have hne : a ≠ q := fun z => by rw [z, hq] at ha; omega
      rw [gR_sR_ne hne]
      exact (h.2.1 a b).1 ha
    · have hne : a ≠ q := fun z => by rw [z, hq] at ha; omega
      rw [gR_sR_ne hne]
      exact (h.2.1 a b).2 ha
  · obtain ⟨g1, g2⟩ := h.2.2.1 a ha
    rw [gR_sR, gR_sR]
    refine ⟨?_, ?_⟩
    · split
      · exact hv
      · exact g1
    · split
      · exact hv
      · exact g2
def lw_gt : List Cond := lw_tbl.filter goodWord
theorem lw_gt_good : GoodIn lw_tbl lw_gt := fun w h => by
  obtain ⟨h1, h2⟩ := List.mem_filter.mp h
  exact ⟨h1, good_of_word h2⟩
theorem gt_in {w : Cond} (h : w ∈ lw_tbl) (g : goodWord w = true) : w ∈ lw_gt := List.mem_filter.mpr ⟨h, g⟩
