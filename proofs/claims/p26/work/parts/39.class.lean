/-! the class as a whole: its state, its trial, its history, its text buffer -/
def Wd : Type := St × Int × (Int → Int) × Int × (Int → St)
def Wd.A (W : Wd) : St := W.1
def Wd.tb (W : Wd) : Int := W.2.1
def Wd.B (W : Wd) : Int → Int := W.2.2.1
def Wd.hn (W : Wd) : Int := W.2.2.2.1
def Wd.H (W : Wd) : Int → St := W.2.2.2.2
def mkW (A : St) (tb : Int) (B : Int → Int) (hn : Int) (H : Int → St) : Wd := (A, tb, B, hn, H)
def InvW (W : Wd) : Prop := InvSt W.A ∧ (0 ≤ W.tb ∧ W.tb ≤ 40 ∧ ∀ j, 0 ≤ j → j < W.tb → 32 ≤ W.B j ∧ W.B j ≤ 126) ∧ 0 ≤ W.hn ∧ W.hn ≤ 8 ∧ ∀ k, 0 ≤ k → k < W.hn → InvSt (W.H k)
def setA (W : Wd) (A : St) : Wd := mkW A W.tb W.B W.hn W.H
def pushW (W : Wd) : Wd := mkW W.A W.tb W.B (min (W.hn + 1) 8) (fun k => if k = 0 then W.A else W.H (k - 1))
def popW (W : Wd) : Wd := mkW (W.H 0) W.tb W.B (W.hn - 1) (fun k => W.H (k + 1))
theorem InvW.setA {W : Wd} (h : InvW W) {A : St} (hA : InvSt A) : InvW (setA W A) := ⟨hA, h.2.1, h.2.2⟩
theorem InvW.push {W : Wd} (h : InvW W) : InvW (pushW W) := by
  obtain ⟨h1, h2, h3, h4, h5⟩ := h
  refine ⟨h1, h2, by show 0 ≤ min (W.hn + 1) 8; omega, by show min (W.hn + 1) 8 ≤ 8; omega, fun k k0 k1 => ?_⟩
  have k1 : k < min (W.hn + 1) 8 := k1
  show InvSt (if k = 0 then W.A else W.H (k - 1))
  split
  · exact h1
  · exact h5 (k - 1) (by omega) (by omega)
theorem InvW.pop {W : Wd} (h : InvW W) (hn : 0 < W.hn) : InvW (popW W) := by
  obtain ⟨h1, h2, h3, h4, h5⟩ := h
  refine ⟨h5 0 (by omega) hn, h2, by show 0 ≤ W.hn - 1; omega, by show W.hn - 1 ≤ 8; omega, fun k k0 k1 => ?_⟩
  have k1 : k < W.hn - 1 := k1
  exact h5 (k + 1) (by omega) (by omega)
/-- where a state of the history may lie -/
def hsT (q : Nat) : Prop := ∃ m, m < 8 ∧ q = 63 + 27 * m
theorem hsT.ge {q : Nat} (h : hsT q) : 63 ≤ q ∧ q + 27 ≤ 279 := by
  obtain ⟨m, hm, rfl⟩ := h
  omega
theorem hsT.sta {q : Nat} (h : hsT q) : sta q := by
  have := h.ge
  exact ⟨by omega, by omega⟩
theorem hsT.apart {p q : Nat} (hp : hsT p) (hq : hsT q) (h : p ≠ q) : p + 27 ≤ q ∨ q + 27 ≤ p := by
  obtain ⟨m, hm, rfl⟩ := hp
  obtain ⟨n, hn, rfl⟩ := hq
  omega
/-- the eight rows of states are all there, each once -/
def HsC (c : Sg) : Prop := (∀ i, 0 ≤ i → i < 8 → hsT (gR c 62 i) ∧ RowsC c (gR c 62 i + 8)) ∧ ∀ i j, 0 ≤ i → i < 8 → 0 ≤ j → j < 8 → gR c 62 i = gR c 62 j → i = j
def HiC (c : Sg) (hn : Int) (H : Int → St) : Prop := gI c 61 1 = hn ∧ HsC c ∧ ∀ k, 0 ≤ k → k < hn → StC c (gR c 62 (hn - 1 - k)) (H k)
theorem HsC.kept {c c' : Sg} (h : HsC c) (h62 : ∀ j, gR c' 62 j = gR c 62 j) (hr : ∀ q, hsT q → ∀ j, gR c' (q + 8 + 1) j = gR c (q + 8 + 1) j) : HsC c' := by
  refine ⟨fun i i0 i1 => ?_, fun i j i0 i1 j0 j1 e => ?_⟩
  · rw [h62]
    have := h.1 i i0 i1
    exact ⟨this.1, this.2.kept (hr _ this.1)⟩
  · rw [h62, h62] at e
    exact h.2 i j i0 i1 j0 j1 e
def ClC (c : Sg) (W : Wd) : Prop := StC c 4 W.A ∧ RowsC c (34 + 8) ∧ (gI c 0 1 = W.tb ∧ ∀ j, 0 ≤ j → j < W.tb → gI c 1 j = W.B j) ∧ HiC c W.hn W.H
theorem HiC.kept {c c' : Sg} {hn : Int} {H : Int → St} (h : HiC c hn H) (hI : ∀ k, 0 ≤ k → k < hn → InvSt (H k)) (hn8 : hn ≤ 8) {lo hi : Nat} (hf : frC c c' lo hi) (h4 : 4 ≤ lo ∨ hi ≤ 2) (h9 : hi ≤ 61) : HiC c' hn H := by
  obtain ⟨h1, h2, h3⟩ := h
  have e2 : ∀ j, gR c' 62 j = gR c 62 j := (hf.1 62 (by omega)).2
  refine ⟨((hf.1 61 (by omega)).1 1).trans h1, h2.kept e2 (fun q hq => ?_), fun k k0 k1 => ?_⟩
  · have := hq.ge
    exact (hf.1 (q + 8 + 1) (by omega)).2
  · rw [e2]
    have := (h2.1 (hn - 1 - k) (by omega) (by omega)).1.ge
    exact (h3 k k0 k1).kept (hI k k0 k1) hf h4 (by omega) (by omega)
section CLASS
variable {c : Sg} {W : Wd}
theorem ClC.trial (h : ClC c W) (hI : InvW W) {c' : Sg} (hf : frC c c' 31 61) (hw : RowsC c' (34 + 8)) : ClC c' W := by
  obtain ⟨h1, h2, ⟨h3, h4⟩, h5⟩ := h
  refine ⟨h1.kept hI.1 hf (by omega) (by omega) (by omega), hw, ⟨((hf.1 0 (by omega)).1 1).trans h3, fun j j0 j1 => ?_⟩, h5.kept hI.2.2.2.2 hI.2.2.2.1 hf (by omega) (by omega)⟩
  rw [(hf.1 1 (by omega)).1 j]
  exact h4 j j0 j1
theorem ClC.now (h : ClC c W) (hI : InvW W) {c' : Sg} (hf : frC c c' 4 31) {A : St} (hA : StC c' 4 A) : ClC c' (setA W A) := by
  obtain ⟨h1, h2, ⟨h3, h4⟩, h5⟩ := h
  refine ⟨hA, h2.kept (hf.1 (34 + 8 + 1) (by omega)).2, ⟨((hf.1 0 (by omega)).1 1).trans h3, fun j j0 j1 => ?_⟩, h5.kept hI.2.2.2.2 hI.2.2.2.1 hf (by omega) (by omega)⟩
  rw [(hf.1 1 (by omega)).1 j]
  exact h4 j j0 j1
/-- the oldest state's row comes behind the others -/
theorem forget_sp {Q : Sg → Prop} (hQ : ∀ c', frC c c' 61 63 → gI c' 61 1 = 7 → (∀ j, 0 ≤ j → j < 7 → gR c' 62 j = gR c 62 (j + 1)) → gR c' 62 7 = gR c 62 0 → Q c') : wp_X1_forgetOldest c Q := by
  refine ⟨by omega, by omega, fun P hP => ?_⟩
  have loop : ∀ d : Nat, ∀ (k : Int) (t : Sg), k + d = 7 → 0 ≤ k → frC c t 61 63 → (∀ j, 0 ≤ j → j < k → gR t 62 j = gR c 62 (j + 1)) → (∀ j, k ≤ j → j < 8 → gR t 62 j = gR c 62 j) → P k t := by
    intro d
    induction d with
    | zero =>
      intro k t hk k0 hf h1 h2
      refine hP k t ⟨rgO (by omega) (by omega), fun _ => ⟨rgO (by omega) (by omega), ?_⟩, fun z => absurd (show (8 : Int) ≤ k + 1 by omega) z⟩
      rintro s1 rfl
      rw [gI_sI_self]
      refine ⟨by omega, by omega, ?_⟩
      rintro s2 rfl
      refine hQ _ (hf.trans ((frC.sI (by omega) (by omega)).trans (frC.sR (by omega) (by omega)))) ?_ (fun j j0 j1 => ?_) ?_
      · rw [gI_sR, gI_sI_self]; rfl
      · rw [gR_sR_nj (by omega), gR_sI]
        exact h1 j j0 (by omega)
      · exact gR_sR_self _ _ _ _
    | succ d ih =>
      intro k t hk k0 hf h1 h2
      refine hP k t ⟨rgO (by omega) (by omega), fun z => absurd z (by omega), fun _ => ⟨by omega, by omega, by omega, by omega, ?_⟩⟩
      rintro s1 rfl
      refine ⟨rgO (by omega) (by omega), ih (k + 1) _ (by omega) (by omega) (hf.trans (frC.sR (by omega) (by omega))) (fun j j0 j1 => ?_) (fun j j0 j1 => ?_)⟩
      · by_cases e : j = k
        · rw [e, gR_sR_self]
          exact h2 (k + 1) (by omega) (by omega)
        · rw [gR_sR_nj e]
          exact h1 j j0 (by omega)
      · rw [gR_sR_nj (by omega)]
        exact h2 j (by omega) j1
  exact loop 7 0 c (by omega) (by omega) (frC.rf c 61 63) (fun j j0 j1 => absurd j1 (by omega)) (fun _ _ _ => rfl)
theorem record16_sp {Q : Sg → Prop} (h : ClC c W) (hI : InvW W) (hl : W.hn < 8) (hQ : ∀ c', frC c c' 61 279 → ClC c' (pushW W) → Q c') : wj_X1_record_16 4 c Q := by
  obtain ⟨h1, h2, h34, h5, ⟨h6, h7⟩, h8⟩ := h
  have n0 := hI.2.2.1
  obtain ⟨hs, hr⟩ := h6 W.hn n0 hl
  generalize hq : gR c 62 W.hn = q at hs hr
  have hg := hs.ge
  unfold wj_X1_record_16
  rw [h5, hq]
  refine ⟨n0, hl, stBecome_sp (q := q) h1 hI.1 hr hs.sta ⟨by omega, by omega⟩ (by omega) (fun c1 hf1 hA1 => ?_)⟩
  have e1 : gI c1 61 1 = W.hn := ((hf1.1 61 (by omega)).1 1).trans h5
  rw [e1]
  refine ⟨rgO (by omega) (by omega), ?_⟩
  rintro s2 rfl
  have hf2 : frC c1 (sI c1 61 1 (W.hn + 1)) 61 62 := frC.sI (by omega) (by omega)
  have hfa : frC c (sI c1 61 1 (W.hn + 1)) 61 279 := (hf1.mono (by omega) (by omega)).trans (hf2.mono (by omega) (by omega))
  have r62 : ∀ j, gR (sI c1 61 1 (W.hn + 1)) 62 j = gR c 62 j := fun j => by rw [gR_sI]; exact (hf1.1 62 (by omega)).2 j
  have ehn : (pushW W).hn = W.hn + 1 := by show min (W.hn + 1) 8 = W.hn + 1; omega
  refine hQ _ hfa ⟨h1.kept hI.1 hfa (by omega) (by omega) (by omega), h2.kept (hfa.1 (34 + 8 + 1) (by omega)).2, ⟨((hfa.1 0 (by omega)).1 1).trans h34.1, fun j j0 j1 => ?_⟩, ?_, ⟨fun i i0 i1 => ?_, fun i j i0 i1 j0 j1 e => ?_⟩, fun k k0 k1 => ?_⟩
  · rw [(hfa.1 1 (by omega)).1 j]
    exact h34.2 j j0 j1
  · rw [ehn]
    exact gI_sI_self _ _ _ _
  · rw [r62]
    have hp := h6 i i0 i1
    refine ⟨hp.1, ?_⟩
    have t1 : RowsC c1 (gR c 62 i + 8) := by
      by_cases ei : gR c 62 i = q
      · rw [ei]; exact hA1.2.2.2.2.1
      · have := hp.1.apart hs ei
        exact hp.2.kept (hf1.1 (gR c 62 i + 8 + 1) (by omega)).2
    exact t1.kept (fun j => rfl)
  · rw [r62, r62] at e
    exact h7 i j i0 i1 j0 j1 e
  · rw [ehn] at k1 ⊢
    rw [r62]
    show StC _ _ (if k = 0 then W.A else W.H (k - 1))
    by_cases ek : k = 0
    · rw [if_pos ek, show W.hn + 1 - 1 - k = W.hn by omega, hq]
      exact hA1.kept hI.1 hf2 (by omega) (by omega) (by omega)
    · rw [if_neg ek, show W.hn + 1 - 1 - k = W.hn - 1 - (k - 1) by omega]
      have hH := hI.2.2.2.2 (k - 1) (by omega) (by omega)
      have hp := (h6 (W.hn - 1 - (k - 1)) (by omega) (by omega)).1
      have hpg := hp.ge
      have hne : gR c 62 (W.hn - 1 - (k - 1)) ≠ q := fun z => by
        have := h7 (W.hn - 1 - (k - 1)) W.hn (by omega) (by omega) n0 hl (z.trans hq.symm)
        omega
      have := hp.apart hs hne
      exact ((h8 (k - 1) (by omega) (by omega)).kept hH hf1 (by omega) (by omega) (by omega)).kept hH hf2 (by omega) (by omega) (by omega)
/-- the oldest one is forgotten -/
def dropW (W : Wd) : Wd := mkW W.A W.tb W.B 7 W.H
theorem record_sp {Q : Sg → Prop} (h : ClC c W) (hI : InvW W) (hQ : ∀ c', frC c c' 61 279 → ClC c' (pushW W) → Q c') : wp_X1_record 4 c Q := by
  have e5 : gI c 61 1 = W.hn := h.2.2.2.1
  have n8 := hI.2.2.2.1
  unfold wp_X1_record
  rw [e5]
  refine ⟨fun z => record16_sp h hI z hQ, fun z => forget_sp (fun c1 hf1 g1 g2 g3 => ?_)⟩
  have ehn : W.hn = 8 := by omega
  obtain ⟨h1, h2, h34, h5, ⟨h6, h7⟩, h8⟩ := h
  have hI2 : InvW (dropW W) := ⟨hI.1, hI.2.1, by show (0 : Int) ≤ 7; omega, by show (7 : Int) ≤ 8; omega, fun k k0 k1 => hI.2.2.2.2 k k0 (by have k1 : k < 7 := k1; omega)⟩
  have e62 : ∀ i, 0 ≤ i → i < 8 → ∃ j, 0 ≤ j ∧ j < 8 ∧ gR c1 62 i = gR c 62 j ∧ j = (if i = 7 then 0 else i + 1) := fun i i0 i1 => by
    by_cases e : i = 7
    · exact ⟨0, by omega, by omega, by rw [e]; exact g3, by rw [if_pos e]⟩
    · exact ⟨i + 1, by omega, by omega, g2 i i0 (by omega), by rw [if_neg e]⟩
  have hC : ClC c1 (dropW W) := by
    refine ⟨h1.kept hI.1 hf1 (by omega) (by omega) (by omega), h2.kept (hf1.1 (34 + 8 + 1) (by omega)).2, ⟨((hf1.1 0 (by omega)).1 1).trans h34.1, fun j j0 j1 => ?_⟩, g1, ⟨fun i i0 i1 => ?_, fun i j i0 i1 j0 j1 e => ?_⟩, fun k k0 k1 => ?_⟩
    · rw [(hf1.1 1 (by omega)).1 j]
      exact h34.2 j j0 j1
    · obtain ⟨j, j0, j1, ej, -⟩ := e62 i i0 i1
      rw [ej]
      have hp := h6 j j0 j1
      have hg := hp.1.ge
      exact ⟨hp.1, hp.2.kept (hf1.1 (gR c 62 j + 8 + 1) (by omega)).2⟩
    · obtain ⟨a, a0, a1, ea, za⟩ := e62 i i0 i1
      obtain ⟨b, b0, b1, eb, zb⟩ := e62 j j0 j1
      rw [ea, eb] at e
      have e9 := h7 a b a0 a1 b0 b1 e
      split at za <;> split at zb <;> omega
    · have k1 : k < 7 := k1
      show StC c1 (gR c1 62 (7 - 1 - k)) (W.H k)
      rw [g2 (7 - 1 - k) (by omega) (by omega), show 7 - 1 - k + 1 = W.hn - 1 - k by omega]
      have hg := (h6 (W.hn - 1 - k) (by omega) (by omega)).1.ge
      exact (h8 k k0 (by omega)).kept (hI.2.2.2.2 k k0 (by omega)) hf1 (by omega) (by omega) (by omega)
  refine record16_sp hC hI2 (by show (7 : Int) < 8; omega) (fun c2 hf2 hW => hQ c2 ((hf1.mono (by omega) (by omega)).trans hf2) ?_)
  have ep : pushW (dropW W) = pushW W := by
    show mkW W.A W.tb W.B (min (7 + 1) 8) _ = mkW W.A W.tb W.B (min (W.hn + 1) 8) _
    rw [ehn]
    rfl
  rw [ep] at hW
  exact hW
theorem restore_sp {Q : Sg → Prop} (h : ClC c W) (hI : InvW W) (hn : 0 < W.hn) (hQ : ∀ c', gN c' = gN c → (∀ a, gL c' a = gL c a) → (∀ a, 293 ≤ a → (∀ j, gI c' a j = gI c a j) ∧ ∀ j, gR c' a j = gR c a j) → ClC c' (popW W) → Q c') : wp_X1_restore 4 c Q := by
  obtain ⟨h1, h2, h34, h5, h67, h8⟩ := h
  have n8 := hI.2.2.2.1
  refine ⟨fun _ => ?_, fun z => by omega⟩
  rw [h5]
  refine ⟨rgO (by omega) (by omega), ?_⟩
  rintro s1 rfl
  have hf0 : frC c (sI c 61 1 (W.hn - 1)) 61 62 := frC.sI (by omega) (by omega)
  have hH0 := hI.2.2.2.2 0 (by omega) hn
  rw [gI_sI_self, gR_sI]
  have hs := (h67.1 (W.hn - 1) (by omega) (by omega)).1
  have hg := hs.ge
  have h80 := h8 0 (by omega) hn
  rw [show W.hn - 1 - 0 = W.hn - 1 by omega] at h80
  refine ⟨by omega, by omega, stBecome_sp (r := gR c 62 (W.hn - 1)) (h80.kept hH0 hf0 (by omega) (by omega) (by omega)) hH0 (h1.2.2.2.2.1.kept (fun _ => rfl)) ⟨by omega, by omega⟩ hs.sta (by omega) (fun c1 hf1 hA1 => ?_)⟩
  have hfa : frC c c1 4 62 := (hf0.mono (by omega) (by omega)).trans (hf1.mono (by omega) (by omega))
  have r62 : ∀ j, gR c1 62 j = gR c 62 j := (hfa.1 62 (by omega)).2
  refine hQ _ hfa.2.2 hfa.2.1 (fun a ha => hfa.1 a (by omega)) ⟨hA1, ?_, ⟨((hfa.1 0 (by omega)).1 1).trans h34.1, fun j j0 j1 => ?_⟩, ?_, h67.kept r62 (fun q hq => ?_), fun k k0 k1 => ?_⟩
  · have w0 : RowsC (sI c 61 1 (W.hn - 1)) (34 + 8) := h2.kept (fun _ => rfl)
    exact w0.kept (hf1.1 (34 + 8 + 1) (by omega)).2
  · rw [(hfa.1 1 (by omega)).1 j]
    exact h34.2 j j0 j1
  · exact ((hf1.1 61 (by omega)).1 1).trans (gI_sI_self _ _ _ _)
  · have := hq.ge
    exact (hfa.1 (q + 8 + 1) (by omega)).2
  · have k1 : k < W.hn - 1 := k1
    show StC c1 (gR c1 62 (W.hn - 1 - 1 - k)) (W.H (k + 1))
    rw [r62, show W.hn - 1 - 1 - k = W.hn - 1 - (k + 1) by omega]
    have hH := hI.2.2.2.2 (k + 1) (by omega) (by omega)
    have := (h67.1 (W.hn - 1 - (k + 1)) (by omega) (by omega)).1.ge
    exact (h8 (k + 1) (by omega) (by omega)).kept hH hfa (by omega) (by omega) (by omega)
theorem carryOut_sp {x : Int} {Q : Int → Sg → Prop} (h : ClC c W) (hI : InvW W)
    (h0 : ∀ c', frC c c' 31 61 → fuS W.A x → ClC c' W → Q 0 c')
    (h1 : ∀ c', frC c c' 31 61 → ¬ fuS W.A x → gI c' 31 1 = loS W.A x → StC c' 34 (r5S W.A x) → ClC c' W → Q 1 c') : wp_X8_carryOut 4 x c Q := by
  have hIA := hI.1
  have p5 : ∀ c', frC c c' 31 61 → ¬ fuS W.A x → gI c' 31 1 = loS W.A x → StC c' 34 (r4S W.A x) → wj_X8_carryOut_60 x c' Q := fun c' hf hfu hl hS => by
    refine ⟨fun z => h1 c' hf hfu hl ?_ (h.trial hI hf hS.2.2.2.2.1), fun z => keepGaps_sp hS (r4S_inv hIA hfu) (fun c2 hf2 hS2 => ?_)⟩
    · unfold r5S; rw [if_pos z]; exact hS
    · have hfa := hf.trans (hf2.mono (lo' := 31) (hi' := 61) (by omega) (by omega))
      refine h1 c2 hfa hfu (((hf2.1 31 (by omega)).1 1).trans hl) ?_ (h.trial hI hfa hS2.2.2.2.2.1)
      unfold r5S; rw [if_neg z]; exact hS2
  have p4 : ∀ c', frC c c' 31 61 → ¬ fuS W.A x → gI c' 31 1 = loS W.A x → StC c' 34 (r3S W.A x) → wj_X8_carryOut_49 x c' Q := fun c' hf hfu hl hS => by
    refine ⟨fun z => p5 c' hf hfu hl ?_, fun z => snap_sp hS (r3S_inv hIA hfu) (fun c2 hf2 hS2 => p5 c2 (hf.trans (hf2.mono (by omega) (by omega))) hfu (((hf2.1 31 (by omega)).1 1).trans hl) ?_)⟩
    · unfold r4S; rw [if_pos z]; exact hS
    · unfold r4S; rw [if_neg z]; exact hS2
  have p3 : ∀ c', frC c c' 31 61 → ¬ fuS W.A x → gI c' 31 1 = loS W.A x → StC c' 34 (r2S W.A x) → wj_X8_carryOut_39 x c' Q := fun c' hf hfu hl hS => by
    refine ⟨fun z => p4 c' hf hfu hl ?_, fun z => stretch_sp hS (r2S_inv hIA hfu) (fun c2 hf2 hS2 => p4 c2 (hf.trans (hf2.mono (by omega) (by omega))) hfu (((hf2.1 31 (by omega)).1 1).trans hl) ?_)⟩
    · unfold r3S; rw [if_pos z]; exact hS
    · unfold r3S; rw [if_neg z]; exact hS2
  have p2 : ∀ c', frC c c' 31 61 → ¬ fuS W.A x → gI c' 31 1 = loS W.A x → StC c' 34 (r1S W.A x) → wj_X8_carryOut_29 x c' Q := fun c' hf hfu hl hS => by
    refine ⟨fun z => p3 c' hf hfu hl ?_, fun z => merge_sp hS (r1S_inv hIA hfu) (fun c2 hf2 hS2 => p3 c2 (hf.trans (hf2.mono (by omega) (by omega))) hfu (((hf2.1 31 (by omega)).1 1).trans hl) ?_)⟩
    · unfold r2S; rw [if_pos z]; exact hS
    · unfold r2S; rw [if_neg z]; exact hS2
  refine stBecome_sp (q := 34) h.1 hIA h.2.1 ⟨by omega, by omega⟩ ⟨by omega, by omega⟩ (by omega) (fun c1 hf1 hS1 => ?_)
  rintro s2 rfl
  have hf2 : frC c1 (sI c1 31 1 0) 31 32 := frC.sI (by omega) (by omega)
  have hfa : frC c (sI c1 31 1 0) 31 61 := (hf1.mono (by omega) (by omega)).trans (hf2.mono (by omega) (by omega))
  have hS2 := hS1.kept hIA hf2 (by omega) (by omega) (by omega)
  refine ⟨fun z => p2 _ hfa (fun y => y.1 z) ?_ ?_, fun z => map_sp (h.1.kept hIA hfa (by omega) (by omega) (by omega)) hIA hS2.2.2.2.2.1 hS2.rs (gI_sI_self _ _ _ _) (fun c3 hf3 h16 hl3 hS3 => ⟨fun y => by omega, fun _ => p2 c3 (hfa.trans hf3) (fun y => by have := y.2; omega) ?_ ?_⟩) (fun c3 hf3 h16 hw3 => ⟨fun _ => h0 c3 (hfa.trans hf3) ⟨z, h16⟩ (h.trial hI (hfa.trans hf3) hw3), fun y => absurd rfl y⟩)⟩
  · rw [gI_sI_self]; unfold loS; rw [if_pos z]
  · unfold r1S; rw [if_pos z]; exact hS2
  · rw [hl3]; unfold loS; rw [if_neg z]
  · unfold r1S; rw [if_neg z]; exact hS3
end CLASS
