/-! the class as a whole: its state, its trial, its history, its text buffer -/
def Wd : Type := St × Int × (Int → Int) × Int × (Int → St)
def Wd.A (W : Wd) : St := W.1
def Wd.tb (W : Wd) : Int := W.2.1
def Wd.B (W : Wd) : Int → Int := W.2.2.1
def Wd.hn (W : Wd) : Int := W.2.2.2.1
def Wd.H (W : Wd) : Int → St := W.2.2.2.2
def mkW (A : St) (tb : Int) (B : Int → Int) (hn : Int) (H : Int → St) : Wd := (A, tb, B, hn, H)
def InvW (W : Wd) : Prop := InvSt W.A ∧ (0 ≤ W.tb ∧ W.tb ≤ 40 ∧ ∀ j, 0 ≤ j → j < W.tb → 32 ≤ W.B j ∧ W.B j ≤ 126) ∧ 0 ≤ W.hn ∧ W.hn ≤ 8 ∧ ∀ k, 0 ≤ k → k < W.hn → InvSt (W.H k)
def setA (W : Wd) (A : St) : Wd := mkW A W.tb W.B W.hn W.H
def pushW (W : Wd) : Wd := mkW W.A W.tb W.B (min (W.hn + 1) 8) (fun k => if k = 0 then W.A else W.H (k - 1))
def popW (W : Wd) : Wd := mkW (W.H 0) W.tb W.B (W.hn - 1) (fun k => W.H (k + 1))
theorem InvW.setA {W : Wd} (h : InvW W) {A : St} (hA : InvSt A) : InvW (setA W A) := ⟨hA, h.2.1, h.2.2⟩
theorem InvW.push {W : Wd} (h : InvW W) : InvW (pushW W) := by
  obtain ⟨h1, h2, h3, h4, h5⟩ := h
  refine ⟨h1, h2, by show 0 ≤ min (W.hn + 1) 8; omega, by show min (W.hn + 1) 8 ≤ 8; omega, fun k k0 k1 => ?_⟩
  have k1 : k < min (W.hn + 1) 8 := k1
  show InvSt (if k = 0 then W.A else W.H (k - 1))
  split
  · exact h1
  · exact h5 (k - 1) (by omega) (by omega)
theorem InvW.pop {W : Wd} (h : InvW W) (hn : 0 < W.hn) : InvW (popW W) := by
  obtain ⟨h1, h2, h3, h4, h5⟩ := h
  refine ⟨h5 0 (by omega) hn, h2, by show 0 ≤ W.hn - 1; omega, by show W.hn - 1 ≤ 8; omega, fun k k0 k1 => ?_⟩
  have k1 : k < W.hn - 1 := k1
  exact h5 (k + 1) (by omega) (by omega)
/-- the state of the history at the place i -/
def hiq (i : Int) : Nat := 63 + 27 * i.toNat
theorem hiq_sta {i : Int} (h0 : 0 ≤ i) (h1 : i < 8) : sta (hiq i) := ⟨by unfold hiq; omega, by unfold hiq; omega⟩
def HiC (c : Sg) (hn : Int) (H : Int → St) : Prop := gI c 61 2 = hn ∧ (0 ≤ gI c 61 1 ∧ gI c 61 1 < 8) ∧ (∀ i, 0 ≤ i → i < 8 → RowsC c (hiq i + 8)) ∧ ∀ k, 0 ≤ k → k < hn → StC c (hiq ((gI c 61 1 - 1 - k) % 8)) (H k)
def ClC (c : Sg) (W : Wd) : Prop := StC c 4 W.A ∧ RowsC c (34 + 8) ∧ (gI c 0 1 = W.tb ∧ ∀ j, 0 ≤ j → j < W.tb → gI c 1 j = W.B j) ∧ HiC c W.hn W.H
theorem HiC.kept {c c' : Sg} {hn : Int} {H : Int → St} (h : HiC c hn H) (hI : ∀ k, 0 ≤ k → k < hn → InvSt (H k)) {lo hi : Nat} (hf : frC c c' lo hi) (h4 : 4 ≤ lo ∨ hi ≤ 2) (h9 : hi ≤ 61) : HiC c' hn H := by
  obtain ⟨h1, h2, h3, h5⟩ := h
  have e := (hf.1 61 (by omega)).1
  refine ⟨(e 2).trans h1, by rw [e 1]; exact h2, fun i i0 i1 => ?_, fun k k0 k1 => ?_⟩
  · have := hiq_sta i0 i1
    exact (h3 i i0 i1).kept (hf.1 (hiq i + 8 + 1) (by unfold hiq; omega)).2
  · rw [e 1]
    exact (h5 k k0 k1).kept (hI k k0 k1) hf h4 (by omega) (by unfold hiq; omega)
section CLASS
variable {c : Sg} {W : Wd}
theorem ClC.trial (h : ClC c W) (hI : InvW W) {c' : Sg} (hf : frC c c' 31 61) (hw : RowsC c' (34 + 8)) : ClC c' W := by
  obtain ⟨h1, h2, ⟨h3, h4⟩, h5⟩ := h
  refine ⟨h1.kept hI.1 hf (by omega) (by omega) (by omega), hw, ⟨((hf.1 0 (by omega)).1 1).trans h3, fun j j0 j1 => ?_⟩, h5.kept hI.2.2.2.2 hf (by omega) (by omega)⟩
  rw [(hf.1 1 (by omega)).1 j]
  exact h4 j j0 j1
theorem ClC.now (h : ClC c W) (hI : InvW W) {c' : Sg} (hf : frC c c' 4 31) {A : St} (hA : StC c' 4 A) : ClC c' (setA W A) := by
  obtain ⟨h1, h2, ⟨h3, h4⟩, h5⟩ := h
  refine ⟨hA, h2.kept (hf.1 (34 + 8 + 1) (by omega)).2, ⟨((hf.1 0 (by omega)).1 1).trans h3, fun j j0 j1 => ?_⟩, h5.kept hI.2.2.2.2 hf (by omega) (by omega)⟩
  rw [(hf.1 1 (by omega)).1 j]
  exact h4 j j0 j1
theorem record_sp {Q : Sg → Prop} (h : ClC c W) (hI : InvW W) (hQ : ∀ c', frC c c' 61 279 → ClC c' (pushW W) → Q c') : wp_X1_record 4 c Q := by
  obtain ⟨h1, h2, h34, h5, h6, h7, h8⟩ := h
  generalize hp : gI c 61 1 = p at *
  have hq := hiq_sta h6.1 h6.2
  unfold wp_X1_record
  rw [hp]
  refine ⟨h6.1, h6.2, stBecome_sp (q := hiq p) h1 hI.1 (h7 p h6.1 h6.2) hq ⟨by omega, by omega⟩ (by unfold hiq; omega) (fun c1 hf1 hA1 => ?_)⟩
  have e1 : gI c1 61 1 = p := ((hf1.1 61 (by unfold hiq; omega)).1 1).trans hp
  have e2 : gI c1 61 2 = W.hn := ((hf1.1 61 (by unfold hiq; omega)).1 2).trans h5
  have b := hI.2.2
  rw [e1, Int.tmod_eq_emod_of_nonneg (by omega)]
  refine ⟨rgO (by omega) (by omega), rgO (by omega) (by omega), ?_⟩
  rintro s2 rfl
  rw [gI_sI_nj (by omega), e2]
  refine ⟨rgO (by omega) (by omega), ?_⟩
  rintro s3 rfl
  have hf2 : frC c1 (sI (sI c1 61 1 ((p + 1) % 8)) 61 2 (min (W.hn + 1) 8)) 61 62 := (frC.sI (by omega) (by omega)).trans (frC.sI (by omega) (by omega))
  have hfa : frC c (sI (sI c1 61 1 ((p + 1) % 8)) 61 2 (min (W.hn + 1) 8)) 61 279 := (hf1.mono (by unfold hiq; omega) (by unfold hiq; omega)).trans (hf2.mono (by omega) (by omega))
  have g1 : gI (sI (sI c1 61 1 ((p + 1) % 8)) 61 2 (min (W.hn + 1) 8)) 61 1 = (p + 1) % 8 := by rw [gI_sI_nj (by omega), gI_sI_self]
  refine hQ _ hfa ⟨h1.kept hI.1 hfa (by omega) (by omega) (by omega), h2.kept (hfa.1 (34 + 8 + 1) (by omega)).2, ⟨((hfa.1 0 (by omega)).1 1).trans h34.1, fun j j0 j1 => ?_⟩, gI_sI_self _ _ _ _, by rw [g1]; omega, fun i i0 i1 => ?_, fun k k0 k1 => ?_⟩
  · rw [(hfa.1 1 (by omega)).1 j]
    exact h34.2 j j0 j1
  · have hi := hiq_sta i0 i1
    have t1 : RowsC c1 (hiq i + 8) := by
      by_cases ei : i = p
      · rw [ei]; exact hA1.2.2.2.2.1
      · exact (h7 i i0 i1).kept (hf1.1 (hiq i + 8 + 1) (by unfold hiq; omega)).2
    exact t1.kept (hf2.1 (hiq i + 8 + 1) (by unfold hiq; omega)).2
  · have k1 : k < min (W.hn + 1) 8 := k1
    rw [g1]
    show StC _ _ (if k = 0 then W.A else W.H (k - 1))
    by_cases ek : k = 0
    · rw [if_pos ek, show ((p + 1) % 8 - 1 - k) % 8 = p by omega]
      exact hA1.kept hI.1 hf2 (by omega) (by omega) (by unfold hiq; omega)
    · rw [if_neg ek, show ((p + 1) % 8 - 1 - k) % 8 = (p - 1 - (k - 1)) % 8 by omega]
      have hH := hI.2.2.2.2 (k - 1) (by omega) (by omega)
      exact ((h8 (k - 1) (by omega) (by omega)).kept hH hf1 (by unfold hiq; omega) (by unfold hiq; omega) (by unfold hiq; omega)).kept hH hf2 (by omega) (by omega) (by unfold hiq; omega)
theorem restore_sp {Q : Sg → Prop} (h : ClC c W) (hI : InvW W) (hn : 0 < W.hn) (hQ : ∀ c', gN c' = gN c → (∀ a, gL c' a = gL c a) → (∀ a, 293 ≤ a → (∀ j, gI c' a j = gI c a j) ∧ ∀ j, gR c' a j = gR c a j) → ClC c' (popW W) → Q c') : wp_X1_restore 4 c Q := by
  obtain ⟨h1, h2, h34, h5, h6, h7, h8⟩ := h
  have b := hI.2.2
  generalize hp : gI c 61 1 = p at *
  refine ⟨fun _ => ?_, fun z => by omega⟩
  rw [hp, Int.tmod_eq_emod_of_nonneg (by omega)]
  refine ⟨rgO (by omega) (by omega), rgO (by omega) (by omega), ?_⟩
  rintro s1 rfl
  have hf0 : frC c (sI c 61 1 ((p + 8 - 1) % 8)) 61 62 := frC.sI (by omega) (by omega)
  have hH0 := hI.2.2.2.2 0 (by omega) hn
  rw [gI_sI_self]
  have h80 := h8 0 (by omega) hn
  rw [show (p - 1 - 0) % 8 = (p + 8 - 1) % 8 by omega] at h80
  have hs := hiq_sta (i := (p + 8 - 1) % 8) (by omega) (by omega)
  refine ⟨by omega, by omega, stBecome_sp (r := hiq ((p + 8 - 1) % 8)) (h80.kept hH0 hf0 (by omega) (by omega) (by unfold hiq; omega)) hH0 (h1.2.2.2.2.1.kept (fun _ => rfl)) ⟨by omega, by omega⟩ hs (by unfold hiq; omega) (fun c1 hf1 hA1 => ?_)⟩
  have e2 : gI c1 61 2 = W.hn := ((hf1.1 61 (by omega)).1 2).trans ((gI_sI_nj (by omega)).trans h5)
  rw [e2]
  refine ⟨rgO (by omega) (by omega), ?_⟩
  rintro s2 rfl
  have hf2 : frC c1 (sI c1 61 2 (W.hn - 1)) 61 62 := frC.sI (by omega) (by omega)
  have hfa : frC c (sI c1 61 2 (W.hn - 1)) 4 62 := (hf0.mono (by omega) (by omega)).trans ((hf1.mono (by omega) (by omega)).trans (hf2.mono (by omega) (by omega)))
  have g1 : gI (sI c1 61 2 (W.hn - 1)) 61 1 = (p + 8 - 1) % 8 := by rw [gI_sI_nj (by omega), (hf1.1 61 (by omega)).1 1, gI_sI_self]
  refine hQ _ hfa.2.2 hfa.2.1 (fun a ha => hfa.1 a (by omega)) ⟨hA1.kept hH0 hf2 (by omega) (by omega) (by omega), ?_, ⟨((hfa.1 0 (by omega)).1 1).trans h34.1, fun j j0 j1 => ?_⟩, gI_sI_self _ _ _ _, by rw [g1]; omega, fun i i0 i1 => ?_, fun k k0 k1 => ?_⟩
  · have w0 : RowsC (sI c 61 1 ((p + 8 - 1) % 8)) (34 + 8) := h2.kept (fun _ => rfl)
    have w1 : RowsC c1 (34 + 8) := w0.kept (hf1.1 (34 + 8 + 1) (by omega)).2
    exact w1.kept (fun _ => rfl)
  · rw [(hfa.1 1 (by omega)).1 j]
    exact h34.2 j j0 j1
  · have hi := hiq_sta i0 i1
    exact (h7 i i0 i1).kept (hfa.1 (hiq i + 8 + 1) (by unfold hiq; omega)).2
  · have k1 : k < W.hn - 1 := k1
    rw [g1, show ((p + 8 - 1) % 8 - 1 - k) % 8 = (p - 1 - (k + 1)) % 8 by omega]
    have hH := hI.2.2.2.2 (k + 1) (by omega) (by omega)
    exact (h8 (k + 1) (by omega) (by omega)).kept hH hfa (by omega) (by omega) (by unfold hiq; omega)
theorem carryOut_sp {x : Int} {Q : Int → Sg → Prop} (h : ClC c W) (hI : InvW W)
    (h0 : ∀ c', frC c c' 31 61 → fuS W.A x → ClC c' W → Q 0 c')
    (h1 : ∀ c', frC c c' 31 61 → ¬ fuS W.A x → gI c' 31 1 = loS W.A x → StC c' 34 (r5S W.A x) → ClC c' W → Q 1 c') : wp_X8_carryOut 4 x c Q := by
  have hIA := hI.1
  have p5 : ∀ c', frC c c' 31 61 → ¬ fuS W.A x → gI c' 31 1 = loS W.A x → StC c' 34 (r4S W.A x) → wj_X8_carryOut_60 x c' Q := fun c' hf hfu hl hS => by
    refine ⟨fun z => h1 c' hf hfu hl ?_ (h.trial hI hf hS.2.2.2.2.1), fun z => keepGaps_sp hS (r4S_inv hIA hfu) (fun c2 hf2 hS2 => ?_)⟩
    · unfold r5S; rw [if_pos z]; exact hS
    · have hfa := hf.trans (hf2.mono (lo' := 31) (hi' := 61) (by omega) (by omega))
      refine h1 c2 hfa hfu (((hf2.1 31 (by omega)).1 1).trans hl) ?_ (h.trial hI hfa hS2.2.2.2.2.1)
      unfold r5S; rw [if_neg z]; exact hS2
  have p4 : ∀ c', frC c c' 31 61 → ¬ fuS W.A x → gI c' 31 1 = loS W.A x → StC c' 34 (r3S W.A x) → wj_X8_carryOut_49 x c' Q := fun c' hf hfu hl hS => by
    refine ⟨fun z => p5 c' hf hfu hl ?_, fun z => snap_sp hS (r3S_inv hIA hfu) (fun c2 hf2 hS2 => p5 c2 (hf.trans (hf2.mono (by omega) (by omega))) hfu (((hf2.1 31 (by omega)).1 1).trans hl) ?_)⟩
    · unfold r4S; rw [if_pos z]; exact hS
    · unfold r4S; rw [if_neg z]; exact hS2
  have p3 : ∀ c', frC c c' 31 61 → ¬ fuS W.A x → gI c' 31 1 = loS W.A x → StC c' 34 (r2S W.A x) → wj_X8_carryOut_39 x c' Q := fun c' hf hfu hl hS => by
    refine ⟨fun z => p4 c' hf hfu hl ?_, fun z => stretch_sp hS (r2S_inv hIA hfu) (fun c2 hf2 hS2 => p4 c2 (hf.trans (hf2.mono (by omega) (by omega))) hfu (((hf2.1 31 (by omega)).1 1).trans hl) ?_)⟩
    · unfold r3S; rw [if_pos z]; exact hS
    · unfold r3S; rw [if_neg z]; exact hS2
  have p2 : ∀ c', frC c c' 31 61 → ¬ fuS W.A x → gI c' 31 1 = loS W.A x → StC c' 34 (r1S W.A x) → wj_X8_carryOut_29 x c' Q := fun c' hf hfu hl hS => by
    refine ⟨fun z => p3 c' hf hfu hl ?_, fun z => merge_sp hS (r1S_inv hIA hfu) (fun c2 hf2 hS2 => p3 c2 (hf.trans (hf2.mono (by omega) (by omega))) hfu (((hf2.1 31 (by omega)).1 1).trans hl) ?_)⟩
    · unfold r2S; rw [if_pos z]; exact hS
    · unfold r2S; rw [if_neg z]; exact hS2
  refine stBecome_sp (q := 34) h.1 hIA h.2.1 ⟨by omega, by omega⟩ ⟨by omega, by omega⟩ (by omega) (fun c1 hf1 hS1 => ?_)
  rintro s2 rfl
  have hf2 : frC c1 (sI c1 31 1 0) 31 32 := frC.sI (by omega) (by omega)
  have hfa : frC c (sI c1 31 1 0) 31 61 := (hf1.mono (by omega) (by omega)).trans (hf2.mono (by omega) (by omega))
  have hS2 := hS1.kept hIA hf2 (by omega) (by omega) (by omega)
  refine ⟨fun z => p2 _ hfa (fun y => y.1 z) ?_ ?_, fun z => map_sp (h.1.kept hIA hfa (by omega) (by omega) (by omega)) hIA hS2.2.2.2.2.1 hS2.rs (gI_sI_self _ _ _ _) (fun c3 hf3 h16 hl3 hS3 => ⟨fun y => by omega, fun _ => p2 c3 (hfa.trans hf3) (fun y => by have := y.2; omega) ?_ ?_⟩) (fun c3 hf3 h16 hw3 => ⟨fun _ => h0 c3 (hfa.trans hf3) ⟨z, h16⟩ (h.trial hI (hfa.trans hf3) hw3), fun y => absurd rfl y⟩)⟩
  · rw [gI_sI_self]; unfold loS; rw [if_pos z]
  · unfold r1S; rw [if_pos z]; exact hS2
  · rw [hl3]; unfold loS; rw [if_neg z]
  · unfold r1S; rw [if_neg z]; exact hS3
end CLASS
