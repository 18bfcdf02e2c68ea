/-! the class's calls -/
section CALLS
variable {c : Sg} {W : Wd}
theorem within_sp {x l u : Int} {Q : Int → Prop} (h1 : l ≤ x ∧ x ≤ u → Q 1) (h0 : ¬ (l ≤ x ∧ x ≤ u) → Q 0) : wp_X9_isWithin x l u c Q :=
  ⟨fun z => h0 (by omega), fun z => ⟨fun y => h0 (by omega), fun y => h1 (by omega)⟩⟩
theorem StC.cu {c' : Sg} {A : St} (h : StC c 4 A) (hI : InvSt A) {n : Int} {F L : Int → Int} (hf : frC c c' 5 8) (hc : CuC c' 5 n F L) : StC c' 4 (setCu A n F L) :=
  ⟨hc, h.2.1.kept hf (by omega), h.2.2.1.kept hf (by omega), h.2.2.2.kept hI.2.2.2.2.1 hf (by omega) (by omega) (by omega)⟩
theorem StC.sh {c' : Sg} {A : St} (h : StC c 4 A) (hI : InvSt A) {n : Int} {f : Int → Int} (hf : frC c c' 8 10) (hc : ShC c' 8 n f) : StC c' 4 (setSh A n f) :=
  ⟨h.1.kept hf (by omega), hc, h.2.2.1.kept hf (by omega), h.2.2.2.kept hI.2.2.2.2.1 hf (by omega) (by omega) (by omega)⟩
theorem StC.se {c' : Sg} {A : St} (h : StC c 4 A) (hI : InvSt A) {v : Int → Int} (hf : frC c c' 10 12) (hc : SeC c' 10 v) : StC c' 4 (setSe A v) :=
  ⟨h.1.kept hf (by omega), h.2.1.kept hf (by omega), hc, h.2.2.2.kept hI.2.2.2.2.1 hf (by omega) (by omega) (by omega)⟩
theorem StC.tr {c' : Sg} {A : St} (h : StC c 4 A) {n : Int} {T : Int → Sb} (hf : frC c c' 12 30) (hc : TrC c' 12 n T) : StC c' 4 (setT A n T) :=
  ⟨h.1.kept hf (by omega), h.2.1.kept hf (by omega), h.2.2.1.kept hf (by omega), hc⟩
theorem tr12 : trk (4 + 8) := ⟨by omega, by omega⟩
theorem c_piece (h : ClC c W) (hI : InvW W) {x y : Int} {Q : Int → Sg → Prop} (hQ : ∀ c', ClC c' (pieceS W x y).W → Q (pieceS W x y).r c') : wp_X9_piece x y c Q := by
  unfold pieceS at hQ
  have b := hI.1.1
  have sb := b.sm (k := W.A.pn) b.1 (Int.le_refl _)
  refine within_sp (fun h1 => ⟨fun z => by omega, fun _ => within_sp (fun h2 => ⟨fun z => by omega, fun _ => ⟨rgO (by omega) (by omega), fun h3 => ?_, fun h3 => ?_⟩⟩) (fun h2 => ⟨fun _ => ?_, fun z => absurd rfl z⟩)⟩) (fun h1 => ⟨fun _ => ?_, fun z => absurd rfl z⟩)
  · rw [if_neg (by omega)] at hQ
    have e : gI c (4 + 1) 2 = W.A.pn := h.1.1.1
    show (10 ≤ gI c (4 + 1) 2 → _) ∧ _
    rw [e]
    refine ⟨fun h4 => ?_, fun h4 => frames_sp h.1.1 b ⟨rgO (by omega) (by omega), fun h5 => ?_, fun h5 => ?_⟩⟩
    · rw [if_pos (Or.inl h4)] at hQ; exact hQ c h
    · rw [if_neg (fun z => z.elim h4 (fun z => by unfold frS at z; omega))] at hQ
      refine record_sp h hI (fun c1 hf1 hW => append_sp hW.1.1 b.1 (by show W.A.pn < 10; omega) (fun c2 hf2 hC => ?_))
      have hW2 := hW.now hI.push (hf2.mono (by omega) (by omega)) (hW.1.cu hI.1 hf2 hC)
      show rgI (gI c2 (4 + 1) 2 - 1) ∧ Q (gI c2 (4 + 1) 2 - 1) c2
      rw [hC.1, show (pushW W).A.pn + 1 - 1 = W.A.pn from Int.add_sub_cancel _ _]
      exact ⟨rgO (by have := b.1; omega) (by have := b.1; have := b.2.1; omega), hQ c2 hW2⟩
    · rw [if_pos (Or.inr (by unfold frS; omega))] at hQ; exact hQ c h
  · rw [if_pos (by omega)] at hQ; exact hQ c h
  · rw [if_pos (by omega)] at hQ; exact hQ c h
  · rw [if_pos (by omega)] at hQ; exact hQ c h
theorem c_pieceAt (h : ClC c W) (hI : InvW W) {p x : Int} {Q : Int → Prop} (hQ : Q (pieceAtQ W.A p x)) : wp_X9_pieceAt p x c Q := by
  unfold pieceAtQ at hQ
  have hn := hI.1.1.2.1
  refine has_sp h.1.1 (fun h1 => ⟨fun z => by omega, fun _ => ⟨fun z => firstOf_sp h.1.1 hn h1.1 h1.2 ?_, fun z => lengthOf_sp h.1.1 hn h1.1 h1.2 ?_, fun z => startOf_sp h.1.1 hI.1.1 h1.1 (by omega) ?_, fun z => ?_⟩⟩) (fun h1 => ⟨fun _ => ?_, fun z => absurd rfl z⟩)
  · rw [if_neg (by omega), if_pos z] at hQ; exact hQ
  · rw [if_neg (by omega), if_neg (by omega), if_pos z] at hQ; exact hQ
  · rw [if_neg (by omega), if_neg (by omega), if_neg (by omega), if_pos z] at hQ; exact hQ
  · rw [if_neg (by omega), if_neg (by omega), if_neg (by omega), if_neg (by omega)] at hQ; exact hQ
  · rw [if_pos h1] at hQ; exact hQ
theorem c_shot (h : ClC c W) (hI : InvW W) {x on : Int} {Q : Int → Sg → Prop} (hQ : ∀ c', ClC c' (shotS W x on).W → Q (shotS W x on).r c') : wp_X9_shot x on c Q := by
  unfold shotS at hQ
  have hn := nrS_none hI.1.2.1 x
  have n0 := hI.1.2.1.1
  have n1 := hI.1.2.1.2.1
  refine within_sp (fun h1 => ⟨fun z => by omega, fun _ => ?_⟩) (fun h1 => ⟨fun _ => ?_, fun z => absurd rfl z⟩)
  · rw [if_neg (fun z => z h1)] at hQ
    have keep : ¬ (on ≠ 0 ∧ noSh W.A x ∧ 20 ≤ W.A.sn) → wj_X9_shot_49 x on c Q := fun hk => by
      rw [if_neg hk] at hQ
      refine record_sp h hI (fun c1 hf1 hW => ⟨fun z => ?_, fun z => ?_⟩)
      · rw [if_neg (fun y => y.1 z)] at hQ
        refine shotsRemove_sp hW.1.2.1 hI.1.2.1 (fun p p0 p1 ep c2 hf2 hC => ?_) (fun hno c2 hf2 hC => ?_)
        · have hyes : ¬ noSh W.A x := fun y => hn.mp y ⟨p, p0, p1, ep⟩
          rw [if_pos ⟨z, hyes⟩] at hQ
          have g := posS_eq hI.1.2.1 ⟨p, p0, p1, ep⟩
          have e : p = (posS W.A.f x W.A.sn.toNat : Int) - 1 := by
            rcases Int.lt_trichotomy p ((posS W.A.f x W.A.sn.toNat : Int) - 1) with y | y | y
            · have := hI.1.2.1.2.2.2 p ((posS W.A.f x W.A.sn.toNat : Int) - 1) p0 y (by omega)
              have e2 : W.A.f p = x := ep
              omega
            · exact y
            · have := hI.1.2.1.2.2.2 ((posS W.A.f x W.A.sn.toNat : Int) - 1) p (by omega) y p1
              have e2 : W.A.f p = x := ep
              omega
          rw [← e] at hQ
          show Q (gI c2 (4 + 4) 1) c2
          rw [hC.1]
          exact hQ c2 (hW.now hI.push (hf2.mono (by omega) (by omega)) (hW.1.sh hI.1 hf2 hC))
        · rw [if_neg (fun y => y.2 (hn.mpr hno))] at hQ
          show Q (gI c2 (4 + 4) 1) c2
          rw [hC.1]
          exact hQ c2 (hW.now hI.push (hf2.mono (by omega) (by omega)) (hW.1.sh hI.1 hf2 hC))
      · by_cases hns : noSh W.A x
        · rw [if_pos ⟨z, hns⟩] at hQ
          refine shotsInsert_sp hW.1.2.1 hI.1.2.1 h1.1 h1.2 (Int.not_le.mp (fun y => hk ⟨z, hns, y⟩)) (hn.mp hns) (fun c2 hf2 hC => ?_)
          show Q (gI c2 (4 + 4) 1) c2
          rw [hC.1]
          exact hQ c2 (hW.now hI.push (hf2.mono (by omega) (by omega)) (hW.1.sh hI.1 hf2 hC))
        · rw [if_neg (fun y => hns y.2), if_neg (fun y => z y.1)] at hQ
          have hW' : ClC c1 (setA (pushW W) W.A) := hW
          have e : gI c1 (4 + 4) 1 = W.A.sn := hW.1.2.1.1
          have done : Q (gI c1 (4 + 4) 1) c1 := by rw [e]; exact hQ c1 hW'
          refine ⟨fun _ => done, fun _ => shotsHas_sp hW.1.2.1 hI.1.2.1 (by omega) (by omega) (fun _ => ⟨fun y => absurd y (by decide), fun _ => done⟩) (fun y => absurd (hn.mpr y) hns)⟩
    refine ⟨fun z => keep (fun y => y.1 z), fun z => shotsHas_sp h.1.2.1 hI.1.2.1 (by omega) (by omega) (fun y => ⟨fun w => by omega, fun _ => keep (fun w => hn.mp w.2.1 y)⟩) (fun y => ⟨fun _ => ?_, fun w => absurd rfl w⟩)⟩
    have e : gI c (4 + 4) 1 = W.A.sn := h.1.2.1.1
    show (gI c (4 + 4) 1 < 20 → _) ∧ _
    rw [e]
    refine ⟨fun w => keep (fun w2 => by have := w2.2.2; omega), fun w => ?_⟩
    rw [if_pos ⟨z, hn.mpr y, by omega⟩] at hQ
    exact hQ c h
  · rw [if_pos h1] at hQ; exact hQ c h
theorem c_shotAt (h : ClC c W) (hI : InvW W) {k : Int} {Q : Int → Prop} (hQ : Q (shotAtQ W.A k)) : wp_X9_shotAt k c Q := by
  unfold shotAtQ at hQ
  refine ⟨fun z => shotsAt_sp h.1.2.1 hI.1.2.1.2.1 ?_, fun z => ?_⟩
  · rw [if_neg (by omega)] at hQ
    by_cases hk : k < W.A.sn
    · rw [if_pos hk] at hQ; rw [if_pos ⟨z, hk⟩]; exact hQ
    · rw [if_neg hk] at hQ; rw [if_neg (fun y => hk y.2)]; exact hQ
  · rw [if_pos (by omega)] at hQ; exact hQ
theorem c_toNew (h : ClC c W) (hI : InvW W) {x k : Int} (hk : k ≤ 2147483647) {Q : Int → Prop} (hQ : Q (toNewQ W.A x k)) : wp_X9_toNew x k c Q := by
  unfold toNewQ at hQ
  refine within_sp (fun h1 => ⟨fun z => by omega, fun _ => ⟨fun z => newFrame_sp h.1.1 hI.1.1 h1.1 h1.2 z hk ?_, fun z => ?_⟩⟩) (fun h1 => ⟨fun _ => ?_, fun z => absurd rfl z⟩)
  · rw [if_neg (by omega)] at hQ; exact hQ
  · rw [if_pos (by omega)] at hQ; exact hQ
  · rw [if_pos (by omega)] at hQ; exact hQ
theorem c_toOld (h : ClC c W) (hI : InvW W) {x : Int} {Q : Int → Prop} (hQ : Q (toOldQ W.A x)) : wp_X9_toOld x c Q := by
  unfold toOldQ at hQ
  refine within_sp (fun h1 => ⟨fun z => by omega, fun _ => oldFrame_sp h.1.1 hI.1.1 h1.1 h1.2 ?_⟩) (fun h1 => ⟨fun _ => ?_, fun z => absurd rfl z⟩)
  · rw [if_neg (by omega)] at hQ; exact hQ
  · rw [if_pos h1] at hQ; exact hQ
theorem c_type (h : ClC c W) (hI : InvW W) {x : Int} {Q : Int → Sg → Prop} (hQ : ∀ c', ClC c' (typeS W x).W → Q (typeS W x).r c') : wp_X9_type x c Q := by
  unfold typeS at hQ
  obtain ⟨g1, g2, ⟨g3, g4⟩, g5⟩ := h
  have b := hI.2.1
  refine within_sp (fun h1 => ⟨fun z => by omega, fun _ => ⟨fun z => by omega, fun _ => ⟨fun z => ⟨by omega, by omega, by omega, ?_⟩, fun z => ?_⟩⟩⟩) (fun h1 => ⟨fun _ => ?_, fun z => absurd rfl z⟩)
  · rw [if_neg (by omega), if_neg (by omega)] at hQ
    rintro s1 rfl
    rw [gI_sI_ne (by omega), g3]
    refine ⟨rgO (by omega) (by omega), ?_⟩
    rintro s2 rfl
    rw [gI_sI_self]
    have hf : frC c (sI (sI c 1 W.tb x) 0 1 (W.tb + 1)) 0 2 := (frC.sI (by omega) (by omega)).trans (frC.sI (by omega) (by omega))
    refine hQ _ ⟨g1.kept hI.1 hf (by omega) (by omega) (by omega), g2.kept (hf.1 (34 + 8 + 1) (by omega)).2, ⟨gI_sI_self _ _ _ _, fun j j0 j1 => ?_⟩, g5.kept hI.2.2.2.2 hI.2.2.2.1 hf (by omega) (by omega)⟩
    · have j1 : j < W.tb + 1 := j1
      rw [gI_sI_ne (by omega)]
      show _ = upF W.B W.tb x j
      unfold upF
      by_cases ej : j = W.tb
      · rw [if_pos ej, ej, gI_sI_self]
      · rw [if_neg ej, gI_sI_nj ej]
        exact g4 j j0 (by omega)
  · rw [if_neg (by omega), if_pos (by omega)] at hQ; exact hQ c ⟨g1, g2, ⟨g3, g4⟩, g5⟩
  · rw [if_pos h1] at hQ; exact hQ c ⟨g1, g2, ⟨g3, g4⟩, g5⟩
end CALLS
