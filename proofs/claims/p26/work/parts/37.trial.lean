/-! the class's trial: it carries out the steps on a state of its own -/
def FnC (c : Sg) (X : Fn) : Prop := gI c 31 4 = X.m ∧ ∀ j, 0 ≤ j → j < X.m → gI c 32 j = X.B j ∧ gI c 33 j = X.E j
theorem FnC.kept {c c' : Sg} {X : Fn} (h : FnC c X) {lo hi : Nat} (hf : frC c c' lo hi) (hd : hi ≤ 31 ∨ 34 ≤ lo) : FnC c' X := by
  refine ⟨((hf.1 31 (by omega)).1 4).trans h.1, fun j j0 j1 => ?_⟩
  rw [(hf.1 32 (by omega)).1 j, (hf.1 33 (by omega)).1 j]
  exact h.2 j j0 j1
theorem ptS_pos {X : Fn} {x y : Int} (h : 0 < X.m ∧ X.E (X.m - 1) = x) : ptS X x y = mkF X.m X.B (fun j => if j = X.m - 1 then y else X.E j) := by unfold ptS; rw [if_pos h]
theorem ptS_neg {X : Fn} {x y : Int} (h : ¬ (0 < X.m ∧ X.E (X.m - 1) = x)) : ptS X x y = mkF (X.m + 1) (fun j => if j = X.m then x else X.B j) (fun j => if j = X.m then y else X.E j) := by unfold ptS; rw [if_neg h]
section TRIAL
variable {c : Sg} {A : St}
theorem put_sp {X : Fn} {x y : Int} {Q : Sg → Prop} (h : FnC c X) (m0 : 0 ≤ X.m) (hm : X.m < 10) (hQ : ∀ c', frC c c' 31 34 → gI c' 31 1 = gI c 31 1 → FnC c' (ptS X x y) → Q c') : wp_X8_put x y c Q := by
  have e := h.1
  have new : ¬ (0 < X.m ∧ X.E (X.m - 1) = x) → wj_X8_put_37 x y c Q := fun hc => by
    rw [ptS_neg hc] at hQ
    refine ⟨fun z => by omega, fun _ => ⟨by omega, by omega, ?_⟩⟩
    rintro s1 rfl
    have e1 : gI (sI c 32 (gI c 31 4) x) 31 4 = X.m := by rw [gI_sI_ne (by omega)]; exact e
    refine ⟨by omega, by omega, ?_⟩
    rintro s2 rfl
    have e2 : gI (sI (sI c 32 (gI c 31 4) x) 33 (gI (sI c 32 (gI c 31 4) x) 31 4) y) 31 4 = X.m := by rw [gI_sI_ne (by omega)]; exact e1
    refine ⟨rgO (by omega) (by omega), ?_⟩
    rintro s3 rfl
    rw [e2, e1, e]
    refine hQ _ ((frC.sI (by omega) (by omega)).trans ((frC.sI (by omega) (by omega)).trans (frC.sI (by omega) (by omega)))) ?_ ⟨gI_sI_self _ _ _ _, fun j j0 j1 => ⟨?_, ?_⟩⟩
    · rw [gI_sI_nj (by omega), gI_sI_ne (by omega), gI_sI_ne (by omega)]
    · have j1 : j < X.m + 1 := j1
      show _ = if j = X.m then x else X.B j
      rw [gI_sI_ne (by omega), gI_sI_ne (by omega)]
      by_cases ej : j = X.m
      · rw [if_pos ej, ej, gI_sI_self]
      · rw [if_neg ej, gI_sI_nj ej]
        exact (h.2 j j0 (by omega)).1
    · have j1 : j < X.m + 1 := j1
      show _ = if j = X.m then y else X.E j
      rw [gI_sI_ne (by omega)]
      by_cases ej : j = X.m
      · rw [if_pos ej, ej, gI_sI_self]
      · rw [if_neg ej, gI_sI_nj ej, gI_sI_ne (by omega)]
        exact (h.2 j j0 (by omega)).2
  refine ⟨fun z => new (by omega), fun z => ⟨by omega, by omega, fun y2 => ⟨by omega, by omega, ?_⟩, fun y2 => new (fun y3 => ?_)⟩⟩
  · have hl := (h.2 (X.m - 1) (by omega) (by omega)).2
    rw [e, hl] at y2
    rw [ptS_pos ⟨by omega, y2⟩] at hQ
    rintro s1 rfl
    rw [e]
    refine hQ _ (frC.sI (by omega) (by omega)) (gI_sI_ne (by omega)) ⟨by rw [gI_sI_ne (by omega)]; exact e, fun j j0 j1 => ⟨?_, ?_⟩⟩
    · rw [gI_sI_ne (by omega)]
      exact (h.2 j j0 j1).1
    · show _ = if j = X.m - 1 then y else X.E j
      by_cases ej : j = X.m - 1
      · rw [if_pos ej, ej, gI_sI_self]
      · rw [if_neg ej, gI_sI_nj ej]
        exact (h.2 j j0 j1).2
  · rw [e, (h.2 (X.m - 1) (by omega) (by omega)).2] at y2
    exact y2 y3.2
theorem findStretches_sp {r r2 : Nat} {S : Sb} {n : Int} {F L : Int → Int} {Q : Sg → Prop} (hS : SbC c r S) (hIS : InvSb S) (hr : r < 31 ∨ 34 ≤ r) (h : CuC c r2 n F L) (hI : InvCu n F L) (hr2 : r2 + 3 ≤ 31 ∨ 34 ≤ r2) (hQ : ∀ c', frC c c' 31 34 → gI c' 31 1 = gI c 31 1 → FnC c' (fnS n F L S) → Q c') : wp_X8_findStretches r r2 c Q := by
  rintro s0 rfl
  intro P hP
  have b := rgb hIS
  have hn := hI.2.1
  refine lq3 (P := P) (fun _ k _ => (n - k).toNat) (fun u k s => 0 ≤ k ∧ k ≤ n ∧ u = smS L k.toNat ∧ frC c s 31 34 ∧ gI s 31 1 = gI c 31 1 ∧ FnC s (fnG F L S.b S.e k.toNat)) ?_ 0 0 _ ⟨by omega, hI.1, rfl, frC.sI (by omega) (by omega), gI_sI_nj (by omega), gI_sI_self _ _ _ _, fun j j0 j1 => by have j1 : j < 0 := j1; omega⟩
  rintro u k s ⟨k0, k1, rfl, hf, hl, hX⟩ ih
  have hc := h.kept hf (by omega)
  have hS2 := hS.kept hf (by omega) (by omega) (by omega)
  have e : gI s r2 2 = n := hc.1
  have next : ∀ s2, frC s s2 31 34 → gI s2 31 1 = gI s 31 1 → FnC s2 (fnG F L S.b S.e (k + 1).toNat) → k < n → wj_X8_findStretches_83 P r r2 (smS L k.toNat) k s2 Q := fun s2 hf2 hl2 hX2 hk => by
    refine lengthOf_sp (hc.kept hf2 (by omega)) hn k0 hk ?_
    rintro w rfl
    have s1 := hI.sm (k := k + 1) (by omega) (by omega)
    rw [← smS_succ L k0]
    exact ⟨rgO (by omega) (by omega), rgO (by omega) (by omega), ih _ (k + 1) s2 ⟨by omega, by omega, rfl, hf.trans hf2, hl2.trans hl, hX2⟩ (by omega)⟩
  refine hP _ k s ⟨fun z => hQ s hf hl ?_, fun z => ?_⟩
  · rw [show k = n by omega] at hX
    exact hX
  · have hk : k < n := by omega
    refine firstOf_sp hc hn k0 hk ?_
    rintro lo rfl
    refine lengthOf_sp hc hn k0 hk ?_
    have hp := hI.2.2.1 k k0 hk
    have s1 := hI.sm (k := k) k0 (by omega)
    refine ⟨rgO (by omega) (by omega), ?_⟩
    rintro hi rfl
    rw [hS2.1.1, hS2.1.2.1]
    have e1 := fnG_succ F L S.b S.e k0
    refine ⟨rgO (by omega) (by omega), fun y => next s (frC.rf _ _ _) rfl ?_ hk, fun y => ⟨rgO (by omega) (by omega), rgO (by omega) (by omega), ?_⟩⟩
    · rw [e1, if_pos y]; exact hX
    · have iv := fnG_inv hI (b := S.b) (e := S.e) hIS.1 k.toNat (by omega)
      have im := iv.2.1
      refine put_sp hX iv.1 (by omega) (fun s2 hf2 hl2 hX2 => next s2 hf2 hl2 ?_ hk)
      rw [e1, if_neg y]; exact hX2
theorem countStretches_sp {r r2 : Nat} {S : Sb} {n : Int} {F L : Int → Int} {Q : Int → Sg → Prop} (hS : SbC c r S) (hIS : InvSb S) (hr : r < 31 ∨ 34 ≤ r) (h : CuC c r2 n F L) (hI : InvCu n F L) (hr2 : r2 + 3 ≤ 31 ∨ 34 ≤ r2) (hQ : ∀ c', frC c c' 31 34 → Q (fnS n F L S).m c') : wp_X8_countStretches r r2 c Q :=
  findStretches_sp hS hIS hr h hI hr2 (fun c' hf _ hX => by
    show Q (gI c' 31 4) c'
    rw [hX.1]
    exact hQ c' hf)
def RsC (c : Sg) (A : St) : Prop := CuC c (34 + 1) A.pn A.F A.L ∧ ShC c (34 + 4) A.sn A.f ∧ SeC c (34 + 6) A.v
theorem RsC.kept {c c' : Sg} (h : RsC c A) {lo hi : Nat} (hf : frC c c' lo hi) (hd : hi ≤ 35 ∨ 42 ≤ lo) : RsC c' A :=
  ⟨h.1.kept hf (by omega), h.2.1.kept hf (by omega), h.2.2.kept hf (by omega)⟩
theorem RsC.st (h : RsC c A) {n : Int} {T : Int → Sb} (g : TrC c (34 + 8) n T) : StC c 34 (setT A n T) := ⟨h.1, h.2.1, h.2.2, g⟩
theorem StC.rs (h : StC c 34 A) : RsC c A := ⟨h.1, h.2.1, h.2.2.1⟩
theorem tr42 : trk (34 + 8) := ⟨by omega, by omega⟩
theorem map_sp {Q : Int → Sg → Prop} (h : StC c 4 A) (hI : InvSt A) (hw : RowsC c (34 + 8)) (hR : RsC c A) (hl : gI c 31 1 = 0)
    (h1 : ∀ c', frC c c' 31 61 → (mpG A.pn A.F A.L A.T A.tn.toNat).n ≤ 16 → gI c' 31 1 = (mpG A.pn A.F A.L A.T A.tn.toNat).lo → StC c' 34 (s1S A) → Q 1 c')
    (h0 : ∀ c', frC c c' 31 61 → 16 < (mpG A.pn A.F A.L A.T A.tn.toNat).n → RowsC c' (34 + 8) → Q 0 c') : wp_X8_map 4 c Q := by
  have hn := hI.2.2.2.2.1
  have n0 := hI.2.2.2.1
  rintro s0 rfl
  intro P hP
  have hf0 : frC c (sI c (34 + 8) 2 0) 42 60 := frC.sI (by omega) (by omega)
  refine lq2 (P := P) (fun i _ => (A.tn - i).toNat) (fun i s => 0 ≤ i ∧ i ≤ A.tn ∧ frC c s 31 61 ∧ StC s 4 A ∧ RsC s A ∧ (mpG A.pn A.F A.L A.T i.toNat).n ≤ 16 ∧ gI s 31 1 = (mpG A.pn A.F A.L A.T i.toNat).lo ∧ TrC s (34 + 8) (mpG A.pn A.F A.L A.T i.toNat).n (mpG A.pn A.F A.L A.T i.toNat).T) ?_ 0 _
    ⟨by omega, n0, hf0.mono (by omega) (by omega), h.kept hI hf0 (by omega) (by omega) (by omega), hR.kept hf0 (by omega), by show (0 : Int) ≤ 16; omega, by rw [gI_sI_ne (by omega)]; exact hl, gI_sI_self _ _ _ _, hw.kept (fun _ => rfl), fun j j0 j1 => by have j1 : j < 0 := j1; omega⟩
  rintro i s ⟨i0, i1, hf, hA, hRs, h16, hlo, hT⟩ ih
  have e : gI s (4 + 8) 2 = A.tn := hA.2.2.2.1
  refine hP i s ⟨fun z => ?_, fun z => tAt_sp e hn i0 (by omega) ?_⟩
  · have ei : i = A.tn := by omega
    subst ei
    exact h1 s hf h16 hlo (hRs.st hT)
  · have hk : i < A.tn := by omega
    have hS := hA.2.2.2.2.2 i i0 hk
    have hIS := hI.2.2.2.2.2.1 i i0 hk
    have hrow := hA.2.2.2.2.1.1 i i0 (by omega)
    have e1 := mpG_succ A.pn A.F A.L A.T i0
    have hX := fnS_inv hI.1 hIS
    have im := mpG_inv hI.1 hI.2.2.2 i.toNat (by omega) h16
    generalize hX0 : mpG A.pn A.F A.L A.T i.toNat = X at *
    generalize hY0 : fnS A.pn A.F A.L (A.T i) = Y at *
    generalize hr0 : gR s (4 + 8 + 1) i = r at *
    refine findStretches_sp hS hIS (by omega) hA.1 hI.1 (by omega) (fun s2 hf2 hl2 hY => ?_)
    rw [hY0] at hY
    have hA2 := hA.kept hI hf2 (by omega) (by omega) (by omega)
    have hR2 := hRs.kept hf2 (by omega)
    have hT2 := hT.kept (by have := im.1.2.1; omega) hf2 (by omega) (by omega) (by omega)
    have hS2 := hS.kept hf2 (by omega) (by omega) (by omega)
    have go : ∀ s3, frC s2 s3 31 32 → FnC s3 Y → gI s3 31 1 = (if Y.m = 0 then X.lo + 1 else X.lo) → wj_X8_map_62 P 4 i r s3 Q := fun s3 hf3 hY3 hl3 => by
      have hA3 := hA2.kept hI hf3 (by omega) (by omega) (by omega)
      have hR3 := hR2.kept hf3 (by omega)
      have hT3 := hT2.kept (by have := im.1.2.1; omega) hf3 (by omega) (by omega) (by omega)
      have hS3 := hS2.kept hf3 (by omega) (by omega) (by omega)
      have hfa := hf.trans ((hf2.mono (lo' := 31) (hi' := 61) (by omega) (by omega)).trans (hf3.mono (by omega) (by omega)))
      have es : gI s3 (34 + 8) 2 = X.n := hT3.1
      have em := hY3.1
      have m0 := hX.1
      have m1 := hX.2.1
      have x0 := im.1.1
      have x1 := im.1.2.1
      show rgI (gI s3 (34 + 8) 2 + gI s3 31 4) ∧ _
      rw [es, em]
      refine ⟨rgO (by omega) (by omega), fun y P2 hP2 => ?_, fun y => h0 s3 hfa ?_ hT3.2.1⟩
      · refine lq2 (P := P2) (fun k _ => (Y.m - k).toNat) (fun k s => 0 ≤ k ∧ k ≤ Y.m ∧ frC s3 s 42 60 ∧ TrC s (34 + 8) (X.n + k) (inG X.T X.n (A.T i) Y k.toNat)) ?_ 0 s3 ⟨by omega, m0, frC.rf _ _ _, by rw [Int.add_zero]; exact hT3⟩
        rintro k s4 ⟨k0, k1, hf4, hT4⟩ ih2
        have hY4 := hY3.kept hf4 (by omega)
        have em4 := hY4.1
        refine hP2 k s4 ⟨fun w => ⟨rgO (by omega) (by omega), ih (i + 1) s4 ⟨by omega, by omega, hfa.trans (hf4.mono (by omega) (by omega)), hA3.kept hI hf4 (by omega) (by omega) (by omega), hR3.kept hf4 (by omega), ?_, ?_, ?_⟩ (by omega)⟩, fun w => ⟨k0, by omega, k0, by omega, ?_⟩⟩
        · rw [e1]; exact y
        · rw [e1, (hf4.1 31 (by omega)).1 1]; exact hl3
        · rw [e1]
          rw [show k = Y.m by omega] at hT4
          exact hT4
        · rw [(hY4.2 k k0 (by omega)).1, (hY4.2 k k0 (by omega)).2]
          refine insertLike_sp hT4 (by omega) (by omega) tr42 (by omega) (hS3.kept hf4 (by omega) (by omega) (by omega)) (fun s5 hf5 hT5 => ⟨rgO (by omega) (by omega), ih2 (k + 1) s5 ⟨by omega, by omega, hf4.trans (hf5.mono (by omega) (by omega)), ?_⟩ (by omega)⟩)
          rw [inG_succ _ _ _ _ k0, show X.n + (k + 1) = X.n + k + 1 by omega]
          exact hT5
      · have := mpG_mono hI.1 hI.2.2.2 (A.tn.toNat - (i + 1).toNat) (i + 1).toNat (by omega)
        rw [e1, show (i + 1).toNat + (A.tn.toNat - (i + 1).toNat) = A.tn.toNat by omega] at this
        have this : X.n + Y.m ≤ (mpG A.pn A.F A.L A.T A.tn.toNat).n := this
        omega
    refine ⟨fun y => ⟨rgO ?_ ?_, ?_⟩, fun y => go s2 (frC.rf _ _ _) hY ?_⟩
    · rw [hl2, hlo]; omega
    · rw [hl2, hlo]; omega
    · rintro s3 rfl
      have hY1 := hY.1
      refine go _ (frC.sI (by omega) (by omega)) ⟨by rw [gI_sI_nj (by omega)]; exact hY1, fun j j0 j1 => ?_⟩ ?_
      · rw [gI_sI_ne (by omega), gI_sI_ne (by omega)]
        exact hY.2 j j0 j1
      · rw [gI_sI_self, hl2, hlo, if_pos (by rw [← hY1]; exact y)]
    · rw [hl2, hlo, if_neg (by rw [← hY.1]; exact y)]
end TRIAL
