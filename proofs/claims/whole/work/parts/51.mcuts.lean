/-! the reference's pieces, shot changes, settings -/
theorem in_sp {m : Sg} {x l u : Int} {Q : Int → Prop} (h1 : l ≤ x ∧ x ≤ u → Q 1) (h0 : ¬ (l ≤ x ∧ x ≤ u) → Q 0) : wp_X10_in x l u m Q :=
  ⟨fun z => h0 (by omega), fun z => ⟨fun y => h0 (by omega), fun y => h1 (by omega)⟩⟩
section MCUTS
variable {m : Sg} {W : Wd} {n : Int} {F L f v : Int → Int}
theorem pieceFirst_sp {x : Int} {Q : Int → Prop} (h : CuP (gI m 280) n F L) (hn : n ≤ 10) (x0 : 0 ≤ x) (x1 : x < n) (hQ : Q (F x)) : wp_X10_pieceFirst x m Q :=
  ⟨by omega, by omega, by rw [(h.2 x x0 x1).1]; exact hQ⟩
theorem pieceLong_sp {x : Int} {Q : Int → Prop} (h : CuP (gI m 280) n F L) (hn : n ≤ 10) (x0 : 0 ≤ x) (x1 : x < n) (hQ : Q (L x)) : wp_X10_pieceLong x m Q :=
  ⟨by omega, by omega, by rw [(h.2 x x0 x1).2]; exact hQ⟩
theorem pieceNew_sp {x : Int} {Q : Int → Prop} (h : CuP (gI m 280) n F L) (hI : InvCu n F L) (x0 : 0 ≤ x) (x1 : x ≤ n) (hQ : Q (smS L x.toNat)) : wp_X10_pieceNew x m Q := by
  intro P hP
  have b := hI.2.1
  refine lq2 (P := P) (fun _ k => (x - k).toNat) (fun u k => 0 ≤ k ∧ k ≤ x ∧ u = smS L k.toNat) ?_ 0 0 ⟨by omega, x0, rfl⟩
  rintro u k ⟨k0, k1, rfl⟩ ih
  refine hP _ k ⟨fun z => ?_, fun z => pieceLong_sp h b k0 (by omega) ?_⟩
  · rw [show k = x by omega]; exact hQ
  · rintro w rfl
    have s1 := hI.sm (k := k) k0 (by omega)
    have s2 := hI.sm (k := k + 1) (by omega) (by omega)
    rw [smS_succ L k0] at s2
    exact ⟨rgO (by omega) (by omega), rgO (by omega) (by omega), ih _ (k + 1) ⟨by omega, by omega, (smS_succ L k0).symm⟩ (by omega)⟩
theorem newLong_sp {Q : Int → Prop} (h : CuP (gI m 280) n F L) (hI : InvCu n F L) (hQ : Q (smS L n.toNat)) : wp_X10_newLong m Q := by
  refine ⟨by omega, by omega, ?_⟩
  rw [h.1]
  exact pieceNew_sp h hI hI.1 (Int.le_refl _) hQ
theorem isPiece_sp {x : Int} {Q : Int → Prop} (h : CuP (gI m 280) n F L) (hI : InvCu n F L) (h1 : 0 ≤ x ∧ x < n → Q 1) (h0 : ¬ (0 ≤ x ∧ x < n) → Q 0) : wp_X10_isPiece x m Q := by
  have a := hI.1
  have b := hI.2.1
  refine ⟨by omega, by omega, ?_⟩
  rw [h.1]
  exact ⟨rgO (by omega) (by omega), in_sp (fun z => h1 (by omega)) (fun z => h0 (by omega))⟩
theorem frK.cu {m' : Sg} {A : St} (hf : frK m m') (h : StP (gI m 280) A) (hI : InvSt A) : StP (gI m' 280) A := h.congr hI hf.2.2
theorem m_piece (h : MoC m W) (hI : InvW W) {x y : Int} {Q : Int → Sg → Prop} (hQ : ∀ m', MoC m' (pieceS W x y).W → Q (pieceS W x y).r m') : wp_X10_piece x y m Q := by
  unfold pieceS at hQ
  have b := hI.1.1
  have b0 := b.1
  have b1 := b.2.1
  have sb := b.sm (k := W.A.pn) b.1 (Int.le_refl _)
  have hs : frS W.A = smS W.A.L W.A.pn.toNat := rfl
  refine in_sp (fun h1 => ⟨fun z => absurd z (by decide), fun _ => in_sp (fun h2 => ⟨fun z => absurd z (by decide), fun _ => ⟨rgO (by omega) (by omega), fun h3 => ⟨by omega, by omega, ?_⟩, fun h3 => ?_⟩⟩) (fun h2 => ⟨fun _ => ?_, fun z => absurd rfl z⟩)⟩) (fun h1 => ⟨fun _ => ?_, fun z => absurd rfl z⟩)
  · rw [if_neg (by omega)] at hQ
    rw [h.1.1.1]
    refine ⟨fun h4 => ?_, fun h4 => newLong_sp h.1.1 b ⟨rgO (by omega) (by omega), fun h5 => ?_, fun h5 => ?_⟩⟩
    · rw [if_pos (Or.inl (by omega))] at hQ; exact hQ m h
    · rw [if_neg (by omega)] at hQ
      refine records_sp h hI (fun m1 hf1 hM => ⟨by omega, by omega, ?_⟩)
      have e : gI m1 280 0 = W.A.pn := hM.1.1.1
      rintro k rfl
      rw [e]
      refine ⟨by omega, by omega, ?_⟩
      rintro s1 rfl
      refine ⟨by omega, by omega, ?_⟩
      rintro s2 rfl
      have e2 : gI (sI (sI m1 280 (1 + 2 * W.A.pn) x) 280 (1 + 2 * W.A.pn + 1) y) 280 0 = W.A.pn := by rw [gI_sI_nj (by omega), gI_sI_nj (by omega)]; exact e
      rw [e2]
      refine ⟨by omega, by omega, by omega, by omega, rgO (by omega) (by omega), ?_⟩
      rintro s3 rfl
      have hfb : frB m1 (sI (sI (sI m1 280 (1 + 2 * W.A.pn) x) 280 (1 + 2 * W.A.pn + 1) y) 280 0 (W.A.pn + 1)) := (frB.sI (by omega)).trans ((frB.sI (by omega)).trans (frB.sI (by omega)))
      refine hQ _ (hM.pg hI.push hfb ⟨⟨gI_sI_self _ _ _ _, fun p p0 p1 => ?_⟩, hM.1.2.1.congr hI.1.2.1.2.1 (fun j j0 j1 => by rw [gI_sI_nj (by omega), gI_sI_nj (by omega), gI_sI_nj (by omega)]), hM.1.2.2.1.congr (fun j j0 j1 => by rw [gI_sI_nj (by omega), gI_sI_nj (by omega), gI_sI_nj (by omega)]), hM.1.2.2.2.congr hI.1.2.2.2 (fun j j0 j1 => by rw [gI_sI_nj (by omega), gI_sI_nj (by omega), gI_sI_nj (by omega)])⟩)
      have p1 : p < W.A.pn + 1 := p1
      show _ = upF W.A.F W.A.pn x p ∧ _ = upF W.A.L W.A.pn y p
      unfold upF
      by_cases ep : p = W.A.pn
      · rw [if_pos ep, if_pos ep, ep, gI_sI_nj (by omega), gI_sI_nj (by omega), gI_sI_self, gI_sI_nj (by omega), gI_sI_self]
        exact ⟨rfl, rfl⟩
      · rw [if_neg ep, if_neg ep, gI_sI_nj (by omega), gI_sI_nj (by omega), gI_sI_nj (by omega), gI_sI_nj (by omega), gI_sI_nj (by omega), gI_sI_nj (by omega)]
        exact hM.1.1.2 p p0 (by show p < W.A.pn; omega)
    · rw [if_pos (Or.inr (by omega))] at hQ; exact hQ m h
  · rw [if_pos (by omega)] at hQ; exact hQ m h
  · rw [if_pos (by omega)] at hQ; exact hQ m h
  · rw [if_pos (by omega)] at hQ; exact hQ m h
theorem m_dropPiece (h : MoC m W) (hI : InvW W) {x : Int} {Q : Int → Sg → Prop} (hQ : ∀ m', MoC m' (dropPieceS W x).W → Q (dropPieceS W x).r m') : wp_X10_dropPiece x m Q := by
  unfold dropPieceS at hQ
  have b := hI.1.1
  have b0 := b.1
  have b1 := b.2.1
  refine isPiece_sp h.1.1 b (fun h1 => ⟨fun z => absurd z (by decide), fun _ => records_sp h hI (fun m1 hf1 hM => ⟨by omega, by omega, by omega, by omega, ?_⟩)⟩) (fun h1 => ⟨fun _ => ?_, fun z => absurd rfl z⟩)
  · rw [if_neg (fun z => z h1)] at hQ
    have e : gI m1 280 0 = W.A.pn := hM.1.1.1
    rw [e]
    refine ⟨rgO (by omega) (by omega), ?_⟩
    rintro s1 rfl
    rintro w rfl
    refine ⟨rgO (by omega) (by omega), fun P hP => ?_⟩
    have hC := hM.1.1
    refine lq2 (P := P) (fun k _ => (1 + 2 * W.A.pn - k).toNat) (fun k s => 1 + 2 * x ≤ k ∧ k ≤ 1 + 2 * (W.A.pn - 1) ∧ frB m1 s ∧ (∀ j, 21 ≤ j → gI s 280 j = gI m1 280 j) ∧ gI s 280 0 = W.A.pn - 1 ∧ ∀ j, 1 ≤ j → j < 21 → gI s 280 j = gI m1 280 (if 1 + 2 * x ≤ j ∧ j < k then j + 2 else j)) ?_ _ _ ⟨by omega, by omega, frB.sI (by omega), fun j j0 => gI_sI_nj (by omega), gI_sI_self _ _ _ _, fun j j0 j1 => by rw [gI_sI_nj (by omega), if_neg (by omega)]⟩
    rintro k s ⟨k0, k1, g1, g2, g3, g4⟩ ih
    refine hP k s ?_
    rw [g3]
    refine ⟨by omega, by omega, rgO (by omega) (by omega), fun z => ?_, fun z => ⟨by omega, by omega, by omega, by omega, ?_⟩⟩
    · have ek : k = 1 + 2 * (W.A.pn - 1) := by omega
      subst ek
      have hcu : CuP (gI s 280) (W.A.pn - 1) (delF W.A.F x) (delF W.A.L x) := by
        refine ⟨g3, fun p p0 p1 => ?_⟩
        rw [g4 _ (by omega) (by omega), g4 _ (by omega) (by omega)]
        unfold delF
        by_cases e1 : p < x
        · rw [if_pos e1, if_pos e1, if_neg (by omega), if_neg (by omega)]
          exact hC.2 p p0 (by show p < W.A.pn; omega)
        · rw [if_neg e1, if_neg e1, if_pos (by omega), if_pos (by omega)]
          have := hC.2 (p + 1) (by omega) (by show p + 1 < W.A.pn; omega)
          rw [show 1 + 2 * p + 2 = 1 + 2 * (p + 1) by omega, show 1 + 2 * p + 1 + 2 = 1 + 2 * (p + 1) + 1 by omega]
          exact this
      refine newLong_sp hcu (b.del h1.1 h1.2) (hQ s (hM.pg hI.push g1 ⟨hcu, hM.1.2.1.congr hI.1.2.1.2.1 (fun j j0 j1 => g2 j (by omega)), hM.1.2.2.1.congr (fun j j0 j1 => g2 j (by omega)), hM.1.2.2.2.congr hI.1.2.2.2 (fun j j0 j1 => g2 j (by omega))⟩))
    · rintro s2 rfl
      refine ⟨rgO (by omega) (by omega), ih (k + 1) _ ⟨by omega, by omega, g1.trans (frB.sI (by omega)), fun j j0 => by rw [gI_sI_nj (by omega)]; exact g2 j j0, by rw [gI_sI_nj (by omega)]; exact g3, fun j j0 j1 => ?_⟩ (by omega)⟩
      rw [gI_sI]
      by_cases ej : j = k
      · rw [if_pos ⟨rfl, ej⟩, if_pos (by omega), ej]
        by_cases e2 : k + 2 < 21
        · rw [g4 _ (by omega) e2, if_neg (by omega)]
        · exact g2 _ (by omega)
      · rw [if_neg (fun y => ej y.2), g4 j j0 j1]
        by_cases e2 : 1 + 2 * x ≤ j ∧ j < k
        · rw [if_pos e2, if_pos (by omega)]
        · rw [if_neg e2, if_neg (by omega)]
  · rw [if_pos h1] at hQ; exact hQ m h
theorem m_pieceAt (h : MoC m W) (hI : InvW W) {p x : Int} {Q : Int → Prop} (hQ : Q (pieceAtQ W.A p x)) : wp_X10_pieceAt p x m Q := by
  unfold pieceAtQ at hQ
  have hn := hI.1.1.2.1
  refine isPiece_sp h.1.1 hI.1.1 (fun h1 => ⟨fun z => absurd z (by decide), fun _ => in_sp (fun h2 => ⟨fun z => absurd z (by decide), fun _ => ⟨fun z => pieceFirst_sp h.1.1 hn h1.1 h1.2 ?_, fun z => ⟨fun y => pieceLong_sp h.1.1 hn h1.1 h1.2 ?_, fun y => pieceNew_sp h.1.1 hI.1.1 h1.1 (by omega) ?_⟩⟩⟩) (fun h2 => ⟨fun _ => ?_, fun z => absurd rfl z⟩)⟩) (fun h1 => ⟨fun _ => ?_, fun z => absurd rfl z⟩)
  · rw [if_neg (by omega), if_pos z] at hQ; exact hQ
  · rw [if_neg (by omega), if_neg (by omega), if_pos y] at hQ; exact hQ
  · rw [if_neg (by omega), if_neg (by omega), if_neg (by omega), if_pos (by omega)] at hQ; exact hQ
  · rw [if_neg (by omega), if_neg (by omega), if_neg (by omega), if_neg (by omega)] at hQ; exact hQ
  · rw [if_pos h1] at hQ; exact hQ
theorem isShot_sp {x : Int} {Q : Int → Prop} (h : ShP (gI m 280) n f) (hI : InvSh n f) (h1 : (∃ j, 0 ≤ j ∧ j < n ∧ f j = x) → Q 1) (h0 : (¬ ∃ j, 0 ≤ j ∧ j < n ∧ f j = x) → Q 0) : wp_X10_isShot x m Q := by
  intro P hP
  have a := hI.1
  have b := hI.2.1
  refine lq2 (P := P) (fun _ k => (n - k).toNat) (fun u k => 0 ≤ k ∧ k ≤ n ∧ ((u = 1 ∧ Q 1) ∨ (u = 0 ∧ ∀ j, 0 ≤ j → j < k → f j ≠ x))) ?_ 0 0 ⟨by omega, a, Or.inr ⟨rfl, fun j j0 j1 => by omega⟩⟩
  rintro u k ⟨k0, k1, hu⟩ ih
  refine hP u k ⟨by omega, by omega, ?_⟩
  rw [h.1]
  refine ⟨fun z => ?_, fun z => ?_⟩
  · rcases hu with ⟨rfl, hu⟩ | ⟨rfl, hu⟩
    · exact ⟨Or.inr rfl, hu⟩
    · exact ⟨Or.inl rfl, h0 (fun ⟨j, j0, j1, e⟩ => hu j j0 (by omega) e)⟩
  · rcases hu with ⟨rfl, hu⟩ | ⟨rfl, hu⟩
    · exact ⟨fun y => absurd y (by decide), fun _ => ⟨rgO (by omega) (by omega), ih 1 (k + 1) ⟨by omega, by omega, Or.inl ⟨rfl, hu⟩⟩ (by omega)⟩⟩
    · refine ⟨fun _ => ⟨by omega, by omega, ?_⟩, fun y => absurd rfl y⟩
      rw [h.2 k k0 (by omega)]
      refine ⟨fun y => ⟨rgO (by omega) (by omega), ih 1 (k + 1) ⟨by omega, by omega, Or.inl ⟨rfl, h1 ⟨k, k0, by omega, y⟩⟩⟩ (by omega)⟩, fun y => ⟨rgO (by omega) (by omega), ih 0 (k + 1) ⟨by omega, by omega, Or.inr ⟨rfl, fun j j0 j1 => ?_⟩⟩ (by omega)⟩⟩
      by_cases e : j = k
      · rw [e]; exact y
      · exact hu j j0 (by omega)
theorem m_shotAt (h : MoC m W) (hI : InvW W) {k : Int} {Q : Int → Prop} (hQ : Q (shotAtQ W.A k)) : wp_X10_shotAt k m Q := by
  unfold shotAtQ at hQ
  have b := hI.1.2.1.2.1
  refine ⟨fun z => ⟨by omega, by omega, ?_⟩, fun z => ?_⟩
  · rw [h.1.2.1.1]
    rw [if_neg (by omega)] at hQ
    refine ⟨fun y => ?_, fun y => ⟨by omega, by omega, ?_⟩⟩
    · rw [if_neg (by omega)] at hQ; exact hQ
    · rw [if_pos (by omega)] at hQ
      rw [h.1.2.1.2 k z (by omega)]; exact hQ
  · rw [if_pos (by omega)] at hQ; exact hQ
theorem m_toNew (h : MoC m W) (hI : InvW W) {x k : Int} (hk : k ≤ 2147483647) {Q : Int → Prop} (hQ : Q (toNewQ W.A x k)) : wp_X10_toNew x k m Q := by
  unfold toNewQ at hQ
  have hIc := hI.1.1
  have b0 := hIc.1
  have b1 := hIc.2.1
  have hC := h.1.1
  refine in_sp (fun h1 => ⟨fun z => absurd z (by decide), fun _ => ⟨fun z => ?_, fun z => ?_⟩⟩) (fun h1 => ⟨fun _ => ?_, fun z => absurd rfl z⟩)
  · rw [if_neg (by omega)] at hQ
    intro P hP
    refine lq2 (P := P) (fun _ p => (W.A.pn - p).toNat) (fun l p => 0 ≤ p ∧ p ≤ W.A.pn ∧ 0 ≤ l ∧ l ≤ k ∧ newS W.A.F W.A.L x (W.A.pn - p).toNat p l (smS W.A.L p.toNat) = newS W.A.F W.A.L x W.A.pn.toNat 0 k 0) ?_ k 0 ⟨by omega, b0, z, by omega, by rw [Int.sub_zero]; rfl⟩
    rintro l p ⟨p0, p1, l0, l1, hr⟩ ih
    refine hP l p ⟨by omega, by omega, ?_⟩
    rw [hC.1]
    refine ⟨fun y => ?_, fun y => pieceFirst_sp hC b1 p0 (by omega) ?_⟩
    · rw [show (W.A.pn - p).toNat = 0 by omega] at hr
      rw [← hr] at hQ; exact hQ
    · have hp := hIc.2.2.1 p p0 (by omega)
      have s1 := hIc.sm (k := p) p0 (by omega)
      have s2 := hIc.sm (k := p + 1) (by omega) (by omega)
      have ek := smS_succ W.A.L p0
      rw [show (W.A.pn - p).toNat = (W.A.pn - (p + 1)).toNat + 1 by omega, newS, ← ek] at hr
      have J : ∀ l', 0 ≤ l' → l' ≤ k → newS W.A.F W.A.L x (W.A.pn - (p + 1)).toNat (p + 1) l' (smS W.A.L (p + 1).toNat) = newS W.A.F W.A.L x W.A.pn.toNat 0 k 0 → wj_X10_toNew_76 P x l' p m Q := fun l' a1 a2 a3 =>
        ⟨rgO (by omega) (by omega), ih l' (p + 1) ⟨by omega, by omega, a1, a2, a3⟩ (by omega)⟩
      rintro w rfl
      refine ⟨rgO (by omega) (by omega), fun y2 => ?_, fun y2 => pieceLong_sp hC b1 p0 (by omega) ⟨fun y3 => ?_, fun y3 => ⟨fun y4 => pieceNew_sp hC hIc p0 (by omega) ⟨rgO (by omega) (by omega), ?_⟩, fun y4 => ⟨rgO (by omega) (by omega), ?_⟩⟩⟩⟩
      · rw [if_neg (by omega)] at hr
        exact J l l0 l1 hr
      · rw [if_neg (by omega)] at hr
        exact J l l0 l1 hr
      · rw [if_pos (by omega), if_pos y4] at hr
        rw [hr]; exact hQ
      · rw [if_pos (by omega), if_neg y4] at hr
        exact J (l + (-1)) (by omega) (by omega) (by rw [show l + (-1) = l - 1 by omega]; exact hr)
  · rw [if_pos (by omega)] at hQ; exact hQ
  · rw [if_pos (by omega)] at hQ; exact hQ
theorem m_toOld (h : MoC m W) (hI : InvW W) {x : Int} {Q : Int → Prop} (hQ : Q (toOldQ W.A x)) : wp_X10_toOld x m Q := by
  unfold toOldQ at hQ
  have hIc := hI.1.1
  have b0 := hIc.1
  have b1 := hIc.2.1
  have hC := h.1.1
  refine in_sp (fun h1 => ⟨fun z => absurd z (by decide), fun _ => ?_⟩) (fun h1 => ⟨fun _ => ?_, fun z => absurd rfl z⟩)
  · rw [if_neg (fun z => z h1)] at hQ
    intro P hP
    refine lq2 (P := P) (fun _ p => (W.A.pn - p).toNat) (fun u p => 0 ≤ p ∧ p ≤ W.A.pn ∧ 0 ≤ u ∧ u ≤ 9999 ∧ oldS W.A.F W.A.L (W.A.pn - p).toNat p u = oldS W.A.F W.A.L W.A.pn.toNat 0 x) ?_ x 0 ⟨by omega, b0, h1.1, h1.2, by rw [Int.sub_zero]⟩
    rintro u p ⟨p0, p1, u0, u1, hr⟩ ih
    refine hP u p ⟨by omega, by omega, ?_⟩
    rw [hC.1]
    refine ⟨fun y => ?_, fun y => pieceLong_sp hC b1 p0 (by omega) ⟨fun y2 => pieceLong_sp hC b1 p0 (by omega) ?_, fun y2 => pieceFirst_sp hC b1 p0 (by omega) ?_⟩⟩
    · rw [show (W.A.pn - p).toNat = 0 by omega] at hr
      rw [← hr] at hQ; exact hQ
    · have hp := hIc.2.2.1 p p0 (by omega)
      rw [show (W.A.pn - p).toNat = (W.A.pn - (p + 1)).toNat + 1 by omega, oldS, if_neg (by omega)] at hr
      rintro w rfl
      exact ⟨rgO (by omega) (by omega), rgO (by omega) (by omega), ih _ (p + 1) ⟨by omega, by omega, by omega, by omega, hr⟩ (by omega)⟩
    · have hp := hIc.2.2.1 p p0 (by omega)
      rw [show (W.A.pn - p).toNat = (W.A.pn - (p + 1)).toNat + 1 by omega, oldS, if_pos (by omega)] at hr
      rw [hr]
      exact ⟨rgO (by rw [← hr]; omega) (by rw [← hr]; omega), hQ⟩
  · rw [if_pos h1] at hQ; exact hQ
theorem setting_sp {k : Int} {Q : Int → Prop} (h : SeP (gI m 280) v) (k0 : 0 ≤ k) (k1 : k < 5) (hQ : Q (v k)) : wp_X10_setting k m Q :=
  ⟨by omega, by omega, by rw [h k k0 k1]; exact hQ⟩
theorem m_type (h : MoC m W) (hI : InvW W) {x : Int} {Q : Int → Sg → Prop} (hQ : ∀ m', MoC m' (typeS W x).W → Q (typeS W x).r m') : wp_X10_type x m Q := by
  unfold typeS at hQ
  obtain ⟨g1, ⟨g2, g3⟩, g4, g5⟩ := h
  have b := hI.2.1
  refine in_sp (fun h1 => ⟨fun z => absurd z (by decide), fun _ => ?_⟩) (fun h1 => ⟨fun _ => ?_, fun z => absurd rfl z⟩)
  · rw [if_neg (by omega)] at hQ
    rw [g2]
    refine ⟨fun z => ?_, fun z => ⟨by omega, by omega, ?_⟩⟩
    · rw [if_pos (by omega)] at hQ; exact hQ m ⟨g1, ⟨g2, g3⟩, g4, g5⟩
    · rw [if_neg (by omega)] at hQ
      rintro s1 rfl
      rw [gI_sI_ne (by omega), g2]
      refine ⟨rgO (by omega) (by omega), ?_⟩
      rintro s2 rfl
      rw [gI_sI_self]
      have e : gI (sI (sI m 281 W.tb x) 279 3 (W.tb + 1)) 280 = gI m 280 := funext (fun j => by rw [gI_sI_ne (by omega), gI_sI_ne (by omega)])
      refine hQ _ ⟨by rw [e]; exact g1, ⟨gI_sI_self _ _ _ _, fun j j0 j1 => ?_⟩, by rw [gI_sI_nj (by omega), gI_sI_ne (by omega)]; exact g4, fun k k0 k1 => by rw [e]; exact g5 k k0 k1⟩
      have j1 : j < W.tb + 1 := j1
      rw [gI_sI_ne (by omega)]
      show _ = upF W.B W.tb x j
      unfold upF
      by_cases ej : j = W.tb
      · rw [if_pos ej, ej, gI_sI_self]
      · rw [if_neg ej, gI_sI_nj ej]
        exact g3 j j0 (by omega)
  · rw [if_pos h1] at hQ; exact hQ m ⟨g1, ⟨g2, g3⟩, g4, g5⟩
theorem m_clear (h : MoC m W) {Q : Int → Sg → Prop} (hQ : ∀ m', MoC m' (clearS W).W → Q (clearS W).r m') : wp_X10_clear m Q := by
  obtain ⟨g1, ⟨g2, g3⟩, g4, g5⟩ := h
  rintro x rfl s1 rfl
  rw [g2]
  have e : gI (sI m 279 3 0) 280 = gI m 280 := funext (fun j => gI_sI_ne (by omega))
  exact hQ _ ⟨by rw [e]; exact g1, ⟨gI_sI_self _ _ _ _, fun j j0 j1 => by have j1 : j < 0 := j1; omega⟩, by rw [gI_sI_nj (by omega)]; exact g4, fun k k0 k1 => by rw [e]; exact g5 k k0 k1⟩
theorem tab6 {k : Int} (k0 : 0 ≤ k) (k1 : k < 5) : tabE 6 k.toNat = if k = 4 then 8 else if 2 ≤ k then 0 else 1 := by
  have : k = 0 ∨ k = 1 ∨ k = 2 ∨ k = 3 ∨ k = 4 := by omega
  rcases this with rfl | rfl | rfl | rfl | rfl <;> decide
theorem tab7 {k : Int} (k0 : 0 ≤ k) (k1 : k < 5) : tabE 7 k.toNat = if k = 0 then 20 else if k = 1 then 200 else if k = 4 then 40 else 50 := by
  have : k = 0 ∨ k = 1 ∨ k = 2 ∨ k = 3 ∨ k = 4 := by omega
  rcases this with rfl | rfl | rfl | rfl | rfl <;> decide
theorem m_set (h : MoC m W) (hI : InvW W) {k x : Int} {Q : Int → Sg → Prop} (hQ : ∀ m', MoC m' (setS W k x).W → Q (setS W k x).r m') : wp_X10_set k x m Q := by
  unfold setS at hQ
  refine in_sp (fun h1 => ⟨fun z => absurd z (by decide), fun _ => ?_⟩) (fun h1 => ⟨fun _ => ?_, fun z => absurd rfl z⟩)
  · have t6 := tab6 h1.1 (by omega)
    have t7 := tab7 h1.1 (by omega)
    have fin : ∀ u l, tabE 6 k.toNat = l → tabE 7 k.toNat = u → wj_X10_set_62 k x u l x m Q := fun u l e1 e2 => by
      rw [e1, e2] at hQ
      refine in_sp (fun h2 => ⟨fun z => absurd z (by decide), fun _ => records_sp h hI (fun m1 hf1 hM => setting_sp hM.1.2.2.1 h1.1 (by omega) ⟨by omega, by omega, ?_⟩)⟩) (fun h2 => ⟨fun _ => ?_, fun z => absurd rfl z⟩)
      · rw [if_neg (fun z => z ⟨h1.1, by omega, h2.1, h2.2⟩)] at hQ
        rintro s1 rfl
        refine hQ _ (hM.pg hI.push (frB.sI (by omega)) ⟨hM.1.1.congr hI.1.1.2.1 (fun j j0 j1 => gI_sI_nj (by omega)), hM.1.2.1.congr hI.1.2.1.2.1 (fun j j0 j1 => gI_sI_nj (by omega)), fun j j0 j1 => ?_, hM.1.2.2.2.congr hI.1.2.2.2 (fun j j0 j1 => gI_sI_nj (by omega))⟩)
        show _ = upF W.A.v k x j
        unfold upF
        by_cases ej : j = k
        · rw [if_pos ej, ej, gI_sI_self]
        · rw [if_neg ej, gI_sI_nj (by omega)]
          exact hM.1.2.2.1 j j0 j1
      · rw [if_pos (fun z => h2 ⟨z.2.2.1, z.2.2.2⟩)] at hQ; exact hQ m h
    have mid : ∀ l, tabE 6 k.toNat = l → wj_X10_set_30 k x l x m Q := fun l e1 => by
      refine ⟨fun z => fin _ _ e1 ?_, fun z => ⟨fun y => fin _ _ e1 ?_, fun y => ⟨fun w => fin _ _ e1 ?_, fun w => fin _ _ e1 ?_⟩⟩⟩
      · rw [t7, if_pos z]
      · rw [t7, if_neg z, if_pos y]
      · rw [t7, if_neg z, if_neg y, if_pos w]
      · rw [t7, if_neg z, if_neg y, if_neg w]
    refine ⟨fun z => mid _ ?_, fun z => ⟨fun y => mid _ ?_, fun y => mid _ ?_⟩⟩
    · rw [t6, if_pos z]
    · rw [t6, if_neg z, if_pos y]
    · rw [t6, if_neg z, if_neg y]
  · rw [if_pos (fun z => h1 ⟨z.1, by omega⟩)] at hQ; exact hQ m h
theorem m_shot (h : MoC m W) (hI : InvW W) {x on : Int} {Q : Int → Sg → Prop} (hQ : ∀ m', MoC m' (shotS W x on).W → Q (shotS W x on).r m') : wp_X10_shot x on m Q := by
  unfold shotS at hQ
  have hn := nrS_none hI.1.2.1 x
  have hIs := hI.1.2.1
  have n0 := hIs.1
  have n1 := hIs.2.1
  refine in_sp (fun h1 => ⟨fun z => absurd z (by decide), fun _ => ?_⟩) (fun h1 => ⟨fun _ => ?_, fun z => absurd rfl z⟩)
  · rw [if_neg (fun z => z h1)] at hQ
    have keep : ∀ has, (has = 0 ∧ noSh W.A x ∨ has = 1 ∧ ¬ noSh W.A x) → ¬ (on ≠ 0 ∧ noSh W.A x ∧ 20 ≤ W.A.sn) → wj_X10_shot_42 x on has m Q := fun has hhas hk => by
      rw [if_neg hk] at hQ
      refine records_sp h hI (fun m1 hf1 hM => ?_)
      have hS := hM.1.2.1
      have e21 : gI m1 280 21 = W.A.sn := hS.1
      have fr : ∀ {m2 : Sg}, frB m1 m2 → (∀ j, j < 21 ∨ 42 ≤ j → gI m2 280 j = gI m1 280 j) → ∀ n f, ShP (gI m2 280) n f → MoC m2 (setA (pushW W) (setSh W.A n f)) := fun hf2 hs2 n f hP => hM.pg hI.push hf2 ⟨hM.1.1.congr hI.1.1.2.1 (fun j j0 j1 => hs2 j (by omega)), hP, hM.1.2.2.1.congr (fun j j0 j1 => hs2 j (by omega)), hM.1.2.2.2.congr hI.1.2.2.2 (fun j j0 j1 => hs2 j (by omega))⟩
      have go : ∀ at', 0 ≤ at' → at' ≤ W.A.sn → (∀ j, 0 ≤ j → j < at' → W.A.f j < x) → (at' < W.A.sn → x ≤ W.A.f at') → wj_X10_shot_81 x on has at' m1 Q := fun at' a0 a1 alo ahi => by
        have late : (on = 0 ∨ ¬ noSh W.A x) → wj_X10_shot_158 on has at' m1 Q := fun hl => by
          refine ⟨fun z => ⟨fun y => ⟨by omega, by omega, ?_⟩, fun y => ⟨by omega, by omega, by omega, by omega, ?_⟩⟩, fun z => ⟨by omega, by omega, ?_⟩⟩
          · have hns : noSh W.A x := hhas.elim (fun w => w.2) (fun w => absurd (y.symm.trans w.1) (by decide))
            rw [if_neg (fun w => w.1 z), if_neg (fun w => w.2 hns)] at hQ
            rw [e21]
            exact hQ m1 hM
          · have hns : ¬ noSh W.A x := hhas.elim (fun w => absurd w.1 y) (fun w => w.2)
            rw [if_neg (fun w => w.1 z), if_pos ⟨z, hns⟩] at hQ
            have hex := Classical.byContradiction fun w => hns (hn.mpr w)
            have g := posS_eq hIs hex
            have eat : (posS W.A.f x W.A.sn.toNat : Int) - 1 = at' := by
              have e1 : ¬ (posS W.A.f x W.A.sn.toNat : Int) - 1 < at' := fun w => by have := alo _ (by omega) w; omega
              have e2 : ¬ at' < (posS W.A.f x W.A.sn.toNat : Int) - 1 := fun w => by
                have := hIs.2.2.2 at' ((posS W.A.f x W.A.sn.toNat : Int) - 1) a0 w (by omega)
                have := ahi (by omega)
                omega
              omega
            rw [eat] at hQ
            have alt : at' < W.A.sn := by omega
            rw [e21]
            refine ⟨rgO (by omega) (by omega), ?_⟩
            rintro s1 rfl
            intro P hP
            refine lq2 (P := P) (fun k _ => (W.A.sn - k).toNat) (fun k s => at' ≤ k ∧ k ≤ W.A.sn - 1 ∧ frB m1 s ∧ (∀ j, j < 21 ∨ 42 ≤ j → gI s 280 j = gI m1 280 j) ∧ gI s 280 21 = W.A.sn - 1 ∧ ∀ j, 0 ≤ j → j < 20 → gI s 280 (22 + j) = gI m1 280 (22 + (if at' ≤ j ∧ j < k then j + 1 else j))) ?_ at' _ ⟨by omega, by omega, frB.sI (by omega), fun j j0 => gI_sI_nj (by omega), gI_sI_self _ _ _ _, fun j j0 j1 => by rw [gI_sI_nj (by omega), if_neg (by omega)]⟩
            rintro k s ⟨k0, k1, g1, g2, g3, g4⟩ ih
            refine hP k s ⟨by omega, by omega, ?_⟩
            rw [g3]
            refine ⟨fun w => ⟨by omega, by omega, ?_⟩, fun w => ⟨by omega, by omega, by omega, by omega, ?_⟩⟩
            · have ek : k = W.A.sn - 1 := by omega
              subst ek
              refine hQ s (fr g1 g2 _ _ ⟨g3, fun j j0 j1 => ?_⟩)
              rw [g4 j j0 (by omega)]
              unfold delF
              by_cases e1 : j < at'
              · rw [if_neg (by omega), if_pos e1]
                exact hS.2 j j0 (by show j < W.A.sn; omega)
              · rw [if_pos (by omega), if_neg e1]
                exact hS.2 (j + 1) (by omega) (by show j + 1 < W.A.sn; omega)
            · rintro s2 rfl
              refine ⟨rgO (by omega) (by omega), ih (k + 1) _ ⟨by omega, by omega, g1.trans (frB.sI (by omega)), fun j j0 => by rw [gI_sI_nj (by omega)]; exact g2 j j0, by rw [gI_sI_nj (by omega)]; exact g3, fun j j0 j1 => ?_⟩ (by omega)⟩
              rw [gI_sI]
              by_cases ej : j = k
              · rw [if_pos ⟨rfl, by omega⟩, if_pos (by omega), show 22 + k + 1 = 22 + (k + 1) by omega, g4 (k + 1) (by omega) (by omega), if_neg (by omega), ej]
              · rw [if_neg (fun y => ej (by omega)), g4 j j0 j1]
                by_cases e2 : at' ≤ j ∧ j < k
                · rw [if_pos e2, if_pos (by omega)]
                · rw [if_neg e2, if_neg (by omega)]
          · have hns : ¬ noSh W.A x := hl.resolve_left z
            rw [if_neg (fun w => hns w.2), if_neg (fun w => z w.1)] at hQ
            rw [e21]
            exact hQ m1 hM
        refine ⟨fun z => late (Or.inl z), fun z => ⟨fun y => ⟨by omega, by omega, ?_⟩, fun y => late (Or.inr (hhas.elim (fun w => absurd w.1 y) (fun w => w.2)))⟩⟩
        have hns : noSh W.A x := hhas.elim (fun w => w.2) (fun w => absurd (y.symm.trans w.1) (by decide))
        have hno := hn.mp hns
        have h20 : W.A.sn < 20 := Int.not_le.mp (fun w => hk ⟨z, hns, w⟩)
        rw [if_pos ⟨z, hns⟩] at hQ
        have eat : (posS W.A.f x W.A.sn.toNat : Int) = at' := by
          have hl := posS_le W.A.f x W.A.sn.toNat
          have e1 : ¬ (posS W.A.f x W.A.sn.toNat : Int) < at' := fun w => by
            have := posS_hi W.A.f x W.A.sn.toNat (posS W.A.f x W.A.sn.toNat) (Int.le_refl _) (by omega)
            have := alo _ (by omega) w
            omega
          have e2 : ¬ at' < (posS W.A.f x W.A.sn.toNat : Int) := fun w => by
            have g := posS_lo W.A.f x W.A.sn.toNat (by omega)
            have h2 := ahi (by omega)
            have h3 : W.A.f at' ≠ x := fun u => hno ⟨at', a0, by omega, u⟩
            by_cases e3 : at' = (posS W.A.f x W.A.sn.toNat : Int) - 1
            · rw [← e3] at g; omega
            · have := hIs.2.2.2 at' ((posS W.A.f x W.A.sn.toNat : Int) - 1) a0 (by omega) (by omega)
              omega
          omega
        rw [eat] at hQ
        rintro k5 rfl
        rw [e21]
        intro P hP
        refine lq2 (P := P) (fun k _ => (k - at').toNat) (fun k s => at' ≤ k ∧ k ≤ W.A.sn ∧ frB m1 s ∧ (∀ j, j < 22 ∨ 42 ≤ j → gI s 280 j = gI m1 280 j) ∧ ∀ j, 0 ≤ j → j < 20 → gI s 280 (22 + j) = gI m1 280 (22 + (if k < j ∧ j ≤ W.A.sn then j - 1 else j))) ?_ W.A.sn m1 ⟨by omega, by omega, frB.rf _, fun j j0 => rfl, fun j j0 j1 => by rw [if_neg (by omega)]⟩
        rintro k s ⟨k0, k1, g1, g2, g4⟩ ih
        refine hP k s ⟨fun w => ⟨by omega, by omega, ?_⟩, fun w => ⟨by omega, by omega, by omega, by omega, ?_⟩⟩
        · have ek : k = at' := by omega
          subst ek
          rintro s1 rfl
          rw [gI_sI_nj (by omega), g2 21 (by omega), e21]
          refine ⟨by omega, by omega, by omega, by omega, rgO (by omega) (by omega), ?_⟩
          rintro s2 rfl
          rw [gI_sI_self]
          refine ⟨by omega, by omega, hQ _ (fr (g1.trans ((frB.sI (by omega)).trans (frB.sI (by omega)))) (fun j j0 => by rw [gI_sI_nj (by omega), gI_sI_nj (by omega)]; exact g2 j (by omega)) _ _ ⟨gI_sI_self _ _ _ _, fun j j0 j1 => ?_⟩)⟩
          rw [gI_sI_nj (by omega), gI_sI]
          unfold insF
          by_cases ej : j = k
          · rw [if_pos ⟨rfl, by omega⟩, if_neg (by omega), if_pos ej]
          · rw [if_neg (fun y => ej (by omega)), g4 j j0 (by omega)]
            by_cases e2 : j < k
            · rw [if_neg (by omega), if_pos e2]
              exact hS.2 j j0 (by show j < W.A.sn; omega)
            · rw [if_pos (by omega), if_neg e2, if_neg ej]
              exact hS.2 (j - 1) (by omega) (by show j - 1 < W.A.sn; omega)
        · rintro s2 rfl
          refine ⟨rgO (by omega) (by omega), ih (k + (-1)) _ ⟨by omega, by omega, g1.trans (frB.sI (by omega)), fun j j0 => by rw [gI_sI_nj (by omega)]; exact g2 j j0, fun j j0 j1 => ?_⟩ (by omega)⟩
          rw [gI_sI]
          by_cases ej : j = k
          · rw [if_pos ⟨rfl, by omega⟩, if_pos (by omega), show 22 + k - 1 = 22 + (k - 1) by omega, g4 (k - 1) (by omega) (by omega), if_neg (by omega), ej]
          · rw [if_neg (fun y => ej (by omega)), g4 j j0 j1]
            by_cases e2 : k < j ∧ j ≤ W.A.sn
            · rw [if_pos e2, if_pos (by omega)]
            · rw [if_neg e2, if_neg (by omega)]
      intro P hP
      refine lq1 (P := P) (fun k => (W.A.sn - k).toNat) (fun k => 0 ≤ k ∧ k ≤ W.A.sn ∧ ∀ j, 0 ≤ j → j < k → W.A.f j < x) ?_ 0 ⟨by omega, n0, fun j j0 j1 => by omega⟩
      rintro k ⟨k0, k1, hlo⟩ ih
      refine hP k ⟨by omega, by omega, ?_⟩
      rw [e21]
      refine ⟨fun z => go k k0 k1 hlo (fun y => by omega), fun z => ⟨by omega, by omega, ?_⟩⟩
      have ek : gI m1 280 (22 + k) = W.A.f k := hS.2 k k0 (by show k < W.A.sn; omega)
      rw [ek]
      refine ⟨fun y => go k k0 k1 hlo (fun _ => y), fun y => ⟨rgO (by omega) (by omega), ih (k + 1) ⟨by omega, by omega, fun j j0 j1 => ?_⟩ (by omega)⟩⟩
      by_cases ej : j = k
      · rw [ej]; omega
      · exact hlo j j0 (by omega)
    have e21 : gI m 280 21 = W.A.sn := h.1.2.1.1
    refine isShot_sp h.1.2.1 hIs (fun he => ?_) (fun he => ?_)
    · have hns : ¬ noSh W.A x := fun y => hn.mp y he
      exact ⟨fun z => keep 1 (Or.inr ⟨rfl, hns⟩) (fun y => y.1 z), fun z => ⟨fun y => absurd y (by decide), fun _ => keep 1 (Or.inr ⟨rfl, hns⟩) (fun y => hns y.2.1)⟩⟩
    · have hns : noSh W.A x := hn.mpr he
      refine ⟨fun z => keep 0 (Or.inl ⟨rfl, hns⟩) (fun y => y.1 z), fun z => ⟨fun _ => ⟨by omega, by omega, ?_⟩, fun y => absurd rfl y⟩⟩
      rw [e21]
      refine ⟨fun y => ?_, fun y => keep 0 (Or.inl ⟨rfl, hns⟩) (fun w => by have := w.2.2; omega)⟩
      rw [if_pos ⟨z, hns, by omega⟩] at hQ
      exact hQ m h
  · rw [if_pos h1] at hQ; exact hQ m h
end MCUTS
