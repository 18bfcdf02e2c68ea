/-! THE REFERENCE: what its page holds -/
def CuP (g : Int → Int) (n : Int) (F L : Int → Int) : Prop := g 0 = n ∧ ∀ p, 0 ≤ p → p < n → g (1 + 2 * p) = F p ∧ g (1 + 2 * p + 1) = L p
def ShP (g : Int → Int) (n : Int) (f : Int → Int) : Prop := g 21 = n ∧ ∀ k, 0 ≤ k → k < n → g (22 + k) = f k
def SeP (g : Int → Int) (v : Int → Int) : Prop := ∀ k, 0 ≤ k → k < 5 → g (1435 + k) = v k
def PtP (g : Int → Int) (w : Int) (p : Pt) : Prop := g w = p.sp ∧ g (w + 1) = p.ln ∧ ∀ k, 0 ≤ k → k < p.ln → g (w + 2 + k) = p.tx k
def SbP (g : Int → Int) (w : Int) (S : Sb) : Prop := (g w = S.b ∧ g (w + 1) = S.e ∧ g (w + 2) = S.p) ∧ PtP g (w + 3) S.one ∧ (S.p = 2 → PtP g (w + 45) S.two)
def TrP (g : Int → Int) (n : Int) (T : Int → Sb) : Prop := g 42 = n ∧ ∀ i, 0 ≤ i → i < n → SbP g (43 + 87 * i) (T i)
def StP (g : Int → Int) (A : St) : Prop := CuP g A.pn A.F A.L ∧ ShP g A.sn A.f ∧ SeP g A.v ∧ TrP g A.tn A.T
theorem CuP.congr {g g' : Int → Int} {n : Int} {F L : Int → Int} (h : CuP g n F L) (hn : n ≤ 10) (hg : ∀ j, 0 ≤ j → j < 21 → g' j = g j) : CuP g' n F L :=
  ⟨(hg 0 (by omega) (by omega)).trans h.1, fun p p0 p1 => ⟨(hg _ (by omega) (by omega)).trans (h.2 p p0 p1).1, (hg _ (by omega) (by omega)).trans (h.2 p p0 p1).2⟩⟩
theorem ShP.congr {g g' : Int → Int} {n : Int} {f : Int → Int} (h : ShP g n f) (hn : n ≤ 20) (hg : ∀ j, 21 ≤ j → j < 42 → g' j = g j) : ShP g' n f :=
  ⟨(hg 21 (by omega) (by omega)).trans h.1, fun p p0 p1 => (hg _ (by omega) (by omega)).trans (h.2 p p0 p1)⟩
theorem SeP.congr {g g' : Int → Int} {v : Int → Int} (h : SeP g v) (hg : ∀ j, 1435 ≤ j → j < 1440 → g' j = g j) : SeP g' v :=
  fun k k0 k1 => (hg _ (by omega) (by omega)).trans (h k k0 k1)
theorem PtP.congr {g g' : Int → Int} {w : Int} {p : Pt} (h : PtP g w p) (hl : p.ln ≤ 40) (hg : ∀ j, w ≤ j → j < w + 42 → g' j = g j) : PtP g' w p :=
  ⟨(hg w (by omega) (by omega)).trans h.1, (hg _ (by omega) (by omega)).trans h.2.1, fun k k0 k1 => (hg _ (by omega) (by omega)).trans (h.2.2 k k0 k1)⟩
theorem SbP.congr {g g' : Int → Int} {w : Int} {S : Sb} (h : SbP g w S) (hI : InvSb S) (hg : ∀ j, w ≤ j → j < w + 87 → g' j = g j) : SbP g' w S := by
  obtain ⟨⟨h1, h2, h3⟩, h4, h5⟩ := h
  refine ⟨⟨(hg w (by omega) (by omega)).trans h1, (hg _ (by omega) (by omega)).trans h2, (hg _ (by omega) (by omega)).trans h3⟩, h4.congr hI.2.2.2.2.1.2.2.2.1 (fun j j0 j1 => hg j (by omega) (by omega)), fun z => (h5 z).congr (hI.2.2.2.2.2 z).2.2.2.1 (fun j j0 j1 => hg j (by omega) (by omega))⟩
theorem TrP.congr {g g' : Int → Int} {n : Int} {T : Int → Sb} (h : TrP g n T) (hI : InvTr n T) (hg : ∀ j, 42 ≤ j → j < 1435 → g' j = g j) : TrP g' n T := by
  have hn := hI.2.1
  exact ⟨(hg 42 (by omega) (by omega)).trans h.1, fun i i0 i1 => (h.2 i i0 i1).congr (hI.2.2.1 i i0 i1) (fun j j0 j1 => hg j (by omega) (by omega))⟩
theorem StP.congr {g g' : Int → Int} {A : St} (h : StP g A) (hI : InvSt A) (hg : ∀ j, 0 ≤ j → j < 1440 → g' j = g j) : StP g' A :=
  ⟨h.1.congr hI.1.2.1 (fun j j0 j1 => hg j (by omega) (by omega)), h.2.1.congr hI.2.1.2.1 (fun j j0 j1 => hg j (by omega) (by omega)), h.2.2.1.congr (fun j j0 j1 => hg j (by omega) (by omega)), h.2.2.2.congr hI.2.2.2 (fun j j0 j1 => hg j (by omega) (by omega))⟩
def MoC (m : Sg) (W : Wd) : Prop := StP (gI m 280) W.A ∧ (gI m 279 3 = W.tb ∧ ∀ j, 0 ≤ j → j < W.tb → gI m 281 j = W.B j) ∧ gI m 279 1 = W.hn ∧ ∀ k, 0 ≤ k → k < W.hn → StP (fun j => gI m 280 (1440 * (W.hn - k) + j)) (W.H k)
/-- only the block of the page that is now has changed -/
def frB (m m' : Sg) : Prop := (∀ a, a ≠ 280 → ∀ j, gI m' a j = gI m a j) ∧ ∀ j, 1440 ≤ j → gI m' 280 j = gI m 280 j
theorem frB.rf (m : Sg) : frB m m := ⟨fun _ _ _ => rfl, fun _ _ => rfl⟩
theorem frB.trans {m m' m'' : Sg} (h : frB m m') (g : frB m' m'') : frB m m'' := ⟨fun a ha j => (g.1 a ha j).trans (h.1 a ha j), fun j j0 => (g.2 j j0).trans (h.2 j j0)⟩
theorem frB.sI {m : Sg} {j v : Int} (h : j < 1440) : frB m (sI m 280 j v) := ⟨fun a ha b => gI_sI_ne ha, fun b hb => gI_sI_nj (by omega)⟩
/-- only the rows and what goes with them -/
def frS2 (m m' : Sg) : Prop := (∀ j, gI m' 280 j = gI m 280 j) ∧ (∀ j, gI m' 281 j = gI m 281 j) ∧ gI m' 279 1 = gI m 279 1 ∧ gI m' 279 3 = gI m 279 3
theorem frS2.rf (m : Sg) : frS2 m m := ⟨fun _ => rfl, fun _ => rfl, rfl, rfl⟩
theorem frS2.trans {m m' m'' : Sg} (h : frS2 m m') (g : frS2 m' m'') : frS2 m m'' := ⟨fun j => (g.1 j).trans (h.1 j), fun j => (g.2.1 j).trans (h.2.1 j), g.2.2.1.trans h.2.2.1, g.2.2.2.trans h.2.2.2⟩
theorem frS2.sI {m : Sg} {a : Nat} {j v : Int} (h : 282 ≤ a ∨ (a = 279 ∧ 9 ≤ j)) : frS2 m (sI m a j v) := by
  refine ⟨fun b => gI_sI_ne (by omega), fun b => gI_sI_ne (by omega), ?_, ?_⟩
  · rw [gI_sI, if_neg (by omega)]
  · rw [gI_sI, if_neg (by omega)]
/-- all but the page and how many states are remembered; the block that is now too -/
def frK (m m' : Sg) : Prop := (∀ a, a ≠ 279 → a ≠ 280 → ∀ j, gI m' a j = gI m a j) ∧ (∀ j, j ≠ 1 → gI m' 279 j = gI m 279 j) ∧ ∀ j, 0 ≤ j → j < 1440 → gI m' 280 j = gI m 280 j
section PAGE
variable {m : Sg} {W : Wd} {A : St}
theorem MoC.pg (h : MoC m W) (hI : InvW W) {m' : Sg} (hf : frB m m') (hA : StP (gI m' 280) A) : MoC m' (setA W A) := by
  obtain ⟨h1, ⟨h2, h3⟩, h4, h5⟩ := h
  refine ⟨hA, ⟨(hf.1 279 (by omega) 3).trans h2, fun j j0 j1 => (hf.1 281 (by omega) j).trans (h3 j j0 j1)⟩, (hf.1 279 (by omega) 1).trans h4, fun k k0 k1 => (h5 k k0 k1).congr (hI.2.2.2.2 k k0 k1) (fun j j0 j1 => hf.2 _ (by have k1 : k < W.hn := k1; show 1440 ≤ 1440 * (W.hn - k) + j; omega))⟩
theorem MoC.scr (h : MoC m W) {m' : Sg} (hf : frS2 m m') : MoC m' W := by
  obtain ⟨h1, ⟨h2, h3⟩, h4, h5⟩ := h
  have e : gI m' 280 = gI m 280 := funext hf.1
  refine ⟨by rw [e]; exact h1, ⟨hf.2.2.2.trans h2, fun j j0 j1 => (hf.2.1 j).trans (h3 j j0 j1)⟩, hf.2.2.1.trans h4, fun k k0 k1 => ?_⟩
  rw [e]
  exact h5 k k0 k1
theorem rec52_sp {Q : Sg → Prop} (h : MoC m W) (hI : InvW W) (hn : W.hn < 8) (hQ : ∀ m', frK m m' → MoC m' (mkW W.A W.tb W.B (W.hn + 1) (fun k => if k = 0 then W.A else W.H (k - 1))) → Q m') : wj_X10_records_52 m Q := by
  obtain ⟨h1, ⟨h2, h3⟩, h4, h5⟩ := h
  have n0 := hI.2.2.1
  unfold wj_X10_records_52
  rw [h4]
  refine ⟨rgO (by omega) (by omega), ?_⟩
  rintro s0 rfl
  intro P hP
  refine lq2 (P := P) (fun k _ => (1440 - k).toNat) (fun k s => 0 ≤ k ∧ k ≤ 1440 ∧ (∀ a, a ≠ 279 → a ≠ 280 → ∀ j, gI s a j = gI m a j) ∧ (∀ j, gI s 279 j = if j = 1 then W.hn + 1 else gI m 279 j) ∧ ∀ j, gI s 280 j = if 1440 * (W.hn + 1) ≤ j ∧ j < 1440 * (W.hn + 1) + k then gI m 280 (j - 1440 * (W.hn + 1)) else gI m 280 j) ?_ 0 _ ⟨by omega, by omega, fun a a0 a1 j => gI_sI_ne a0, fun j => ?_, fun j => by rw [gI_sI_ne (by omega), if_neg (by omega)]⟩
  · rintro k s ⟨k0, k1, g1, g2, g3⟩ ih
    have e1 : gI s 279 1 = W.hn + 1 := by rw [g2, if_pos rfl]
    refine hP k s ⟨fun z => ?_, fun z => ⟨k0, by omega, ?_⟩⟩
    · have ek : k = 1440 := by omega
      subst ek
      have blk : ∀ j, 0 ≤ j → j < 1440 → gI s 280 j = gI m 280 j := fun j j0 j1 => by rw [g3, if_neg (by omega)]
      refine hQ s ⟨g1, fun j j1 => by rw [g2, if_neg j1], blk⟩ ⟨h1.congr hI.1 blk, ⟨by rw [g2, if_neg (by omega)]; exact h2, fun j j0 j1 => (g1 281 (by omega) (by omega) j).trans (h3 j j0 j1)⟩, e1, fun k k0 k1 => ?_⟩
      have k1 : k < W.hn + 1 := k1
      show StP (fun j => gI s 280 (1440 * (W.hn + 1 - k) + j)) (if k = 0 then W.A else W.H (k - 1))
      by_cases ek : k = 0
      · rw [if_pos ek]
        refine h1.congr hI.1 (fun j j0 j1 => ?_)
        rw [g3, if_pos (by omega), ek]
        congr 1
        omega
      · rw [if_neg ek]
        refine (h5 (k - 1) (by omega) (by omega)).congr (hI.2.2.2.2 (k - 1) (by omega) (by omega)) (fun j j0 j1 => ?_)
        rw [g3, if_neg (by omega)]
        congr 1
        omega
    · rw [e1]
      refine ⟨by omega, by omega, ?_⟩
      rintro s2 rfl
      refine ⟨rgO (by omega) (by omega), ih (k + 1) _ ⟨by omega, by omega, fun a a0 a1 j => (gI_sI_ne a1).trans (g1 a a0 a1 j), fun j => (gI_sI_ne (by omega)).trans (g2 j), fun j => ?_⟩ (by omega)⟩
      rw [gI_sI]
      by_cases ej : j = 1440 * (W.hn + 1) + k
      · rw [if_pos ⟨rfl, ej⟩, if_pos (by omega), g3, if_neg (by omega)]
        congr 1
        omega
      · rw [if_neg (fun z => ej z.2), g3]
        by_cases e2 : 1440 * (W.hn + 1) ≤ j ∧ j < 1440 * (W.hn + 1) + k
        · rw [if_pos e2, if_pos (by omega)]
        · rw [if_neg e2, if_neg (by omega)]
  · rw [gI_sI]
    by_cases e : j = 1
    · rw [if_pos ⟨rfl, e⟩, if_pos e]
    · rw [if_neg (fun z => e z.2), if_neg e]
theorem records_sp {Q : Sg → Prop} (h : MoC m W) (hI : InvW W) (hQ : ∀ m', frK m m' → MoC m' (pushW W) → Q m') : wp_X10_records m Q := by
  have n0 := hI.2.2.1
  have n1 := hI.2.2.2.1
  have h4 : gI m 279 1 = W.hn := h.2.2.1
  unfold wp_X10_records
  rw [h4]
  refine ⟨fun z => ?_, fun z => rec52_sp h hI (by omega) (fun m' hf hM => hQ m' hf ?_)⟩
  · intro P hP
    refine lq2 (P := P) (fun k _ => (11520 - k).toNat) (fun k s => 1440 ≤ k ∧ k ≤ 11520 ∧ (∀ a, a ≠ 280 → ∀ j, gI s a j = gI m a j) ∧ ∀ j, gI s 280 j = if 1440 ≤ j ∧ j < k then gI m 280 (j + 1440) else gI m 280 j) ?_ 1440 m ⟨by omega, by omega, fun _ _ _ => rfl, fun j => by rw [if_neg (by omega)]⟩
    rintro k s ⟨k0, k1, g1, g2⟩ ih
    have e1 : gI s 279 1 = W.hn := (g1 279 (by omega) 1).trans h4
    refine hP k s ⟨fun y => ?_, fun y => ⟨by omega, by omega, by omega, by omega, ?_⟩⟩
    · have ek : k = 11520 := by omega
      subst ek
      rw [e1]
      refine ⟨rgO (by omega) (by omega), ?_⟩
      rintro s2 rfl
      obtain ⟨h1, ⟨h2, h3⟩, -, h5⟩ := h
      have pg : ∀ j, gI (sI s 279 1 (W.hn - 1)) 280 j = if 1440 ≤ j ∧ j < 11520 then gI m 280 (j + 1440) else gI m 280 j := fun j => (gI_sI_ne (by omega)).trans (g2 j)
      have hI2 : InvW (mkW W.A W.tb W.B 7 W.H) := ⟨hI.1, hI.2.1, by show (0 : Int) ≤ 7; omega, by show (7 : Int) ≤ 8; omega, fun k k0 k1 => hI.2.2.2.2 k k0 (by have k1 : k < 7 := k1; omega)⟩
      have hM : MoC (sI s 279 1 (W.hn - 1)) (mkW W.A W.tb W.B 7 W.H) := by
        refine ⟨h1.congr hI.1 (fun j j0 j1 => by rw [pg, if_neg (by omega)]), ⟨(gI_sI_nj (by omega)).trans ((g1 279 (by omega) 3).trans h2), fun j j0 j1 => (gI_sI_ne (by omega)).trans ((g1 281 (by omega) j).trans (h3 j j0 j1))⟩, by rw [gI_sI_self]; show W.hn - 1 = 7; omega, fun k k0 k1 => ?_⟩
        have k1 : k < 7 := k1
        refine (h5 k k0 (by omega)).congr (hI.2.2.2.2 k k0 (by omega)) (fun j j0 j1 => ?_)
        show gI (sI s 279 1 (W.hn - 1)) 280 (1440 * (7 - k) + j) = gI m 280 (1440 * (W.hn - k) + j)
        rw [pg, if_pos (by omega)]
        congr 1
        omega
      refine rec52_sp hM hI2 (by show (7 : Int) < 8; omega) (fun m' hf hM2 => hQ m' ⟨fun a a0 a1 j => (hf.1 a a0 a1 j).trans ((gI_sI_ne a0).trans (g1 a a1 j)), fun j j1 => (hf.2.1 j j1).trans ((gI_sI_nj j1).trans (g1 279 (by omega) j)), fun j j0 j1 => (hf.2.2 j j0 j1).trans ?_⟩ ?_)
      · rw [pg, if_neg (by omega)]
      · unfold pushW
        rw [show min (W.hn + 1) 8 = (7 : Int) + 1 by omega]
        exact hM2
    · rintro s2 rfl
      refine ⟨rgO (by omega) (by omega), ih (k + 1) _ ⟨by omega, by omega, fun a a0 j => (gI_sI_ne a0).trans (g1 a a0 j), fun j => ?_⟩ (by omega)⟩
      rw [gI_sI]
      by_cases ej : j = k
      · rw [if_pos ⟨rfl, ej⟩, if_pos (by omega), g2, if_neg (by omega), ej]
      · rw [if_neg (fun w => ej w.2), g2]
        by_cases e2 : 1440 ≤ j ∧ j < k
        · rw [if_pos e2, if_pos (by omega)]
        · rw [if_neg e2, if_neg (by omega)]
  · unfold pushW
    rw [show min (W.hn + 1) 8 = W.hn + 1 by omega]
    exact hM
theorem mUndo_sp {Q : Int → Sg → Prop} (h : MoC m W) (hI : InvW W) (hQ : ∀ m', MoC m' (undoS W).W → Q (undoS W).r m') : wp_X10_undo m Q := by
  obtain ⟨h1, ⟨h2, h3⟩, h4, h5⟩ := h
  have n0 := hI.2.2.1
  have n1 := hI.2.2.2.1
  unfold undoS at hQ
  unfold wp_X10_undo
  rw [h4]
  refine ⟨fun z => ?_, fun z P hP => ?_⟩
  · rw [if_pos z] at hQ
    exact hQ m ⟨h1, ⟨h2, h3⟩, h4, h5⟩
  · rw [if_neg z] at hQ
    refine lq2 (P := P) (fun k _ => (1440 - k).toNat) (fun k s => 0 ≤ k ∧ k ≤ 1440 ∧ (∀ a, a ≠ 280 → ∀ j, gI s a j = gI m a j) ∧ ∀ j, gI s 280 j = if 0 ≤ j ∧ j < k then gI m 280 (1440 * W.hn + j) else gI m 280 j) ?_ 0 m ⟨by omega, by omega, fun _ _ _ => rfl, fun j => by rw [if_neg (by omega)]⟩
    rintro k s ⟨k0, k1, g1, g2⟩ ih
    have e1 : gI s 279 1 = W.hn := (g1 279 (by omega) 1).trans h4
    refine hP k s ⟨fun y => ?_, fun y => ?_⟩
    · have ek : k = 1440 := by omega
      subst ek
      rw [e1]
      refine ⟨rgO (by omega) (by omega), ?_⟩
      rintro s2 rfl
      rw [gI_sI_self]
      have pg : ∀ j, gI (sI s 279 1 (W.hn - 1)) 280 j = if 0 ≤ j ∧ j < 1440 then gI m 280 (1440 * W.hn + j) else gI m 280 j := fun j => (gI_sI_ne (by omega)).trans (g2 j)
      refine hQ _ ⟨(h5 0 (by omega) (by omega)).congr (hI.2.2.2.2 0 (by omega) (by omega)) (fun j j0 j1 => ?_), ⟨(gI_sI_nj (by omega)).trans ((g1 279 (by omega) 3).trans h2), fun j j0 j1 => (gI_sI_ne (by omega)).trans ((g1 281 (by omega) j).trans (h3 j j0 j1))⟩, gI_sI_self _ _ _ _, fun k k0 k1 => ?_⟩
      · rw [pg, if_pos (by omega)]
        congr 1
        omega
      · have k1 : k < W.hn - 1 := k1
        refine (h5 (k + 1) (by omega) (by omega)).congr (hI.2.2.2.2 (k + 1) (by omega) (by omega)) (fun j j0 j1 => ?_)
        show gI (sI s 279 1 (W.hn - 1)) 280 (1440 * (W.hn - 1 - k) + j) = gI m 280 (1440 * (W.hn - (k + 1)) + j)
        rw [pg, if_neg (by omega)]
        congr 1
        omega
    · rw [e1]
      refine ⟨by omega, by omega, by omega, by omega, ?_⟩
      rintro s2 rfl
      refine ⟨rgO (by omega) (by omega), ih (k + 1) _ ⟨by omega, by omega, fun a a0 j => (gI_sI_ne a0).trans (g1 a a0 j), fun j => ?_⟩ (by omega)⟩
      rw [gI_sI]
      by_cases ej : j = k
      · rw [if_pos ⟨rfl, ej⟩, if_pos (by omega), g2, if_neg (by omega), ej]
      · rw [if_neg (fun w => ej w.2), g2]
        by_cases e2 : 0 ≤ j ∧ j < k
        · rw [if_pos e2, if_pos (by omega)]
        · rw [if_neg e2, if_neg (by omega)]
end PAGE
