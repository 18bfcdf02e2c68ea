/-! the reference's texts -/
def whB (x : Int) : Int := 43 + 87 * (x / 2) + 3 + 42 * (x % 2)
theorem whB_rg {x : Int} (x0 : 0 ≤ x) (x1 : x < 32) : 46 ≤ whB x ∧ whB x ≤ 1393 := by unfold whB; omega
section MTEXTS
variable {m : Sg} {x : Int} {p : Pt} {v : Int → Int}
theorem mAt_sp {i : Int} {Q : Int → Prop} (i0 : 0 ≤ i) (i1 : i < 32) (hQ : Q (43 + 87 * i)) : wp_X10_at i m Q := ⟨rgO (by omega) (by omega), hQ⟩
theorem partAt_sp {Q : Int → Prop} (x0 : 0 ≤ x) (x1 : x < 32) (hQ : Q (whB x)) : wp_X10_partAt x m Q := by
  unfold wp_X10_partAt
  rw [Int.tdiv_eq_ediv_of_nonneg x0, Int.tmod_eq_emod_of_nonneg x0]
  exact ⟨rgO (by omega) (by omega), mAt_sp (by omega) (by omega) ⟨rgO (by omega) (by omega), hQ⟩⟩
theorem byteOf_sp {k : Int} {Q : Int → Prop} (h : PtP (gI m 280) (whB x) p) (hI : InvPt p) (x0 : 0 ≤ x) (x1 : x < 32) (k0 : 0 ≤ k) (k1 : k < p.ln) (hQ : Q (p.tx k)) : wp_X10_byteOf x k m Q := by
  have b := whB_rg x0 x1
  have l := hI.2.2.2.1
  exact partAt_sp x0 x1 ⟨by omega, by omega, by rw [h.2.2 k k0 k1]; exact hQ⟩
theorem longOf_sp {Q : Int → Prop} (h : PtP (gI m 280) (whB x) p) (x0 : 0 ≤ x) (x1 : x < 32) (hQ : Q p.ln) : wp_X10_longOf x m Q := by
  have b := whB_rg x0 x1
  exact partAt_sp x0 x1 ⟨by omega, by omega, by rw [h.2.1]; exact hQ⟩
theorem speakerOf_sp {Q : Int → Prop} (h : PtP (gI m 280) (whB x) p) (x0 : 0 ≤ x) (x1 : x < 32) (hQ : Q p.sp) : wp_X10_speakerOf x m Q := by
  have b := whB_rg x0 x1
  exact partAt_sp x0 x1 ⟨by omega, by omega, by rw [h.1]; exact hQ⟩
theorem mWord_sp {k a b d : Int} {Q : Int → Prop} (h : PtP (gI m 280) (whB x) p) (hI : InvPt p) (x0 : 0 ≤ x) (x1 : x < 32) (k0 : 0 ≤ k) (k1 : k ≤ p.ln) (h1 : wdS p k a b d → Q 1) (h0 : ¬ wdS p k a b d → Q 0) : wp_X10_isWord x k a b d m Q := by
  have l4 := hI.2.2.2.1
  have key : ∀ n, n = (if d = 0 then 2 else 3) → wj_X10_isWord_10 x k a b d n m Q := fun n en => by
    have n2 : n = 2 ∨ n = 3 := by rw [en]; split <;> omega
    have nd : d ≠ 0 → n = 3 := fun hd => by rw [en, if_neg hd]
    unfold wdS at h1 h0
    rw [← en] at h1 h0
    have no : ¬ (k + n ≤ p.ln ∧ p.tx k = a ∧ p.tx (k + 1) = b ∧ (d = 0 ∨ p.tx (k + 2) = d) ∧ (k + n = p.ln ∨ p.tx (k + n) = 32)) → wj_X10_isWord_69 x k n m Q := fun hc => ⟨fun _ => h0 hc, fun z => absurd rfl z⟩
    refine longOf_sp h x0 x1 ⟨rgO (by omega) (by omega), fun z => no (fun w => by have := w.1; omega), fun z => byteOf_sp h hI x0 x1 k0 (by omega) ⟨fun y => ⟨rgO (by omega) (by omega), byteOf_sp h hI x0 x1 (by omega) (by omega) ⟨fun y2 => ?_, fun y2 => no (fun w => y2 w.2.2.1)⟩⟩, fun y => no (fun w => y w.2.1)⟩⟩
    have yes : (d = 0 ∨ p.tx (k + 2) = d) → wj_X10_isWord_65 x k n m Q := fun hd => by
      refine ⟨fun w => absurd w (by decide), fun _ => longOf_sp h x0 x1 ⟨rgO (by omega) (by omega), fun w => h1 ⟨by omega, y, y2, hd, Or.inl w⟩, fun w => ⟨rgO (by omega) (by omega), byteOf_sp h hI x0 x1 (by omega) (by omega) ⟨fun w2 => h1 ⟨by omega, y, y2, hd, Or.inr w2⟩, fun w2 => h0 (fun u => u.2.2.2.2.elim w w2)⟩⟩⟩⟩
    refine ⟨fun w => yes (Or.inl w), fun w => ⟨rgO (by omega) (by omega), byteOf_sp h hI x0 x1 (by omega) (by have := nd w; omega) ⟨fun w2 => yes (Or.inr w2), fun w2 => no (fun u => u.2.2.2.1.elim w w2)⟩⟩⟩
  refine ⟨fun z => key 2 (by rw [if_pos z]), fun z => key 3 (by rw [if_neg z])⟩
theorem mRank_sp {k : Int} {Q : Int → Prop} (h : PtP (gI m 280) (whB x) p) (hI : InvPt p) (x0 : 0 ≤ x) (x1 : x < 32) (k0 : 1 ≤ k) (k1 : k < p.ln) (hQ : Q (rkS p k)) : wp_X10_rankOf x k m Q := by
  have h4 := hI.2.2.2.1
  refine ⟨rgO (by omega) (by omega), byteOf_sp h hI x0 x1 (by omega) (by omega) ?_⟩
  unfold rkS at hQ
  refine ⟨fun y => by rw [if_pos y] at hQ; exact hQ, fun y => ?_⟩
  rw [if_neg y] at hQ
  refine ⟨fun y => by rw [if_pos y] at hQ; exact hQ, fun y => ?_⟩
  rw [if_neg y] at hQ
  refine ⟨fun y => by rw [if_pos y] at hQ; exact hQ, fun y => ?_⟩
  rw [if_neg y] at hQ
  refine ⟨fun y => by rw [if_pos y] at hQ; exact hQ, fun y => ?_⟩
  rw [if_neg y] at hQ
  refine ⟨fun y => by rw [if_pos y] at hQ; exact hQ, fun y => ?_⟩
  rw [if_neg y] at hQ
  have two : Q 2 → wj_X10_rankOf_93 m Q := fun hq => ⟨fun z => absurd z (by decide), fun _ => hq⟩
  refine ⟨rgO (by omega) (by omega), mWord_sp h hI x0 x1 (by omega) (by omega) (fun y => ⟨fun z => absurd z (by decide), fun _ => two ?_⟩) (fun y => ⟨fun _ => ?_, fun z => absurd rfl z⟩)⟩
  · rw [if_pos y] at hQ; exact hQ
  rw [if_neg y] at hQ
  refine ⟨rgO (by omega) (by omega), mWord_sp h hI x0 x1 (by omega) (by omega) (fun y => ⟨fun z => absurd z (by decide), fun _ => two ?_⟩) (fun y => ⟨fun _ => ?_, fun z => absurd rfl z⟩)⟩
  · rw [if_pos y] at hQ; exact hQ
  rw [if_neg y] at hQ
  refine ⟨rgO (by omega) (by omega), mWord_sp h hI x0 x1 (by omega) (by omega) (fun y => ⟨fun z => absurd z (by decide), fun _ => two ?_⟩) (fun y => ⟨fun _ => ⟨fun _ => ?_, fun z => absurd rfl z⟩, fun z => absurd rfl z⟩)⟩
  · rw [if_pos y] at hQ; exact hQ
  · rw [if_neg y] at hQ; exact hQ
theorem mBroken_sp {Q : Int → Prop} (h : PtP (gI m 280) (whB x) p) (hI : InvPt p) (x0 : 0 ≤ x) (x1 : x < 32) (hv : SeP (gI m 280) v) (w0 : 0 ≤ v 4) (w1 : v 4 ≤ 40) (hQ : Q (brS p (v 4))) : wp_X10_brokenAt x m Q := by
  have h3 := hI.2.2.1
  have h4 := hI.2.2.2.1
  refine longOf_sp h x0 x1 (setting_sp hv (by omega) (by omega) ?_)
  intro P hP
  unfold brS at hQ
  by_cases hw : p.ln ≤ v 4
  · rw [if_pos hw] at hQ
    exact hP _ _ _ _ ⟨fun _ => hQ, fun _ => ⟨fun _ => hQ, fun y => absurd hw y⟩⟩
  · rw [if_neg hw] at hQ
    refine lq4 (P := P) (fun _ _ _ k => (p.ln - k).toNat) (fun b l ft k => 0 ≤ k ∧ k ≤ p.ln ∧ rgI b ∧ rgI l ∧ (ft = 0 ∨ ft = 1) ∧ ∃ l', (b ≠ -9 → (ft = 1 → l' = l ∧ l' < 1000) ∧ (ft = 0 → l' = 1000 + l ∧ 0 ≤ l)) ∧ brG p (v 4) (p.ln - k).toNat k b l' = brG p (v 4) p.ln.toNat 0 (-9) 0) ?_ (-9) 0 0 0 ⟨by omega, by omega, rgO (by omega) (by omega), rgO (by omega) (by omega), Or.inl rfl, 0, fun z => absurd rfl z, by rw [Int.sub_zero]⟩
    rintro b l ft k ⟨k0, k1, b0, l0, hft, l', hl', hr⟩ ih
    refine hP b l ft k ⟨fun z => ?_, fun z => ⟨fun y => absurd y hw, fun _ => byteOf_sp h hI x0 x1 k0 (by omega) ⟨fun y => ?_, fun y => ?_⟩⟩⟩
    · rw [show (p.ln - k).toNat = 0 by omega] at hr
      rw [← hr] at hQ; exact hQ
    · rw [show (p.ln - k).toNat = (p.ln - (k + 1)).toNat + 1 by omega, brG] at hr
      have kp : 1 ≤ k := by
        by_cases ek : k = 0
        · rw [ek] at y; exact absurd y hI.2.2.2.2.2
        · omega
      have ck := coS_rg hI (v 4) k0 (by omega)
      have lk := lgS_rg hI k0 (by omega)
      have rk := rkS_rg p k
      have skip : ¬ (b = -9 ∨ coS p (v 4) k < l') → wj_X10_brokenAt_161 P x p.ln (v 4) b l ft k m Q := fun g => by
        rw [if_neg (fun z => g z.2)] at hr
        exact ⟨rgO (by omega) (by omega), ih b l ft (k + 1) ⟨by omega, by omega, b0, l0, hft, l', hl', hr⟩ (by omega)⟩
      have take : ∀ bo c, rgI c → (bo = 0 ∨ bo = 1) → (bo = 1 → coS p (v 4) k = c ∧ coS p (v 4) k < 1000) → (bo = 0 → coS p (v 4) k = 1000 + c ∧ 0 ≤ c) → (b = -9 ∨ coS p (v 4) k < l') → wj_X10_brokenAt_149 P x p.ln (v 4) k bo c m Q := fun bo c hc hbo e1 e0 g => by
        rw [if_pos ⟨y, g⟩] at hr
        exact ⟨rgO (by omega) (by omega), ih k c bo (k + 1) ⟨by omega, by omega, rgO (by omega) (by omega), hc, hbo, coS p (v 4) k, fun _ => ⟨e1, e0⟩, hr⟩ (by omega)⟩
      have both : ∀ bo c, rgI c → (bo = 0 ∨ bo = 1) → (bo = 1 → coS p (v 4) k = c ∧ coS p (v 4) k < 1000) → (bo = 0 → coS p (v 4) k = 1000 + c ∧ 0 ≤ c) → wj_X10_brokenAt_116 P x p.ln (v 4) b l ft k bo c m Q := fun bo c hc hbo e1 e0 => by
        have eq : ¬ b = -9 → (bo = 0 ∨ ft = 1) → wj_X10_brokenAt_135 P x p.ln (v 4) b l ft k bo c m Q := fun hb hbf => by
          obtain ⟨g1, g0⟩ := hl' hb
          refine ⟨fun z2 => ⟨fun z3 => skip (fun w => w.elim hb (fun w => ?_)), fun z3 => take bo c hc hbo e1 e0 (Or.inr ?_)⟩, fun z2 => skip (fun w => w.elim hb (fun w => ?_))⟩
          · rcases hbo with rfl | rfl
            · have := e0 rfl; have := g0 z2.symm; omega
            · have := e1 rfl; have := g1 z2.symm; omega
          · rcases hbo with rfl | rfl
            · have := e0 rfl; have := g0 z2.symm; omega
            · have := e1 rfl; have := g1 z2.symm; omega
          · rcases hbo with rfl | rfl
            · have := e0 rfl
              have := g1 (hft.resolve_left (fun u => z2 u.symm))
              omega
            · exact z2 (hbf.resolve_left (by decide)).symm
        refine ⟨fun z2 => take bo c hc hbo e1 e0 (Or.inl z2), fun z2 => ⟨fun z3 => eq z2 (Or.inl z3), fun z3 => ⟨fun z4 => take bo c hc hbo e1 e0 (Or.inr ?_), fun z4 => eq z2 (Or.inr (hft.resolve_left z4))⟩⟩⟩
        have := e1 (hbo.resolve_left z3)
        have := (hl' z2).2 z4
        omega
      rintro u rfl
      refine ⟨rgO (by omega) (by omega), ?_⟩
      have lo : ∀ lg, lg = lgS p k → wj_X10_brokenAt_70 P x p.ln (v 4) b l ft k (p.ln - k - 1) lg m Q := fun lg elg => by
        refine ⟨fun z2 => ⟨fun _ => ?_, fun w => absurd rfl w⟩, fun z2 => ⟨fun w => absurd w (by decide), fun _ => mRank_sp h hI x0 x1 kp (by omega) ?_⟩⟩
        · have : coS p (v 4) k = 1000 + lg := by unfold coS; rw [if_neg (by omega), elg]
          exact both 0 lg (rgO (by omega) (by omega)) (Or.inl rfl) (fun w => absurd w (by decide)) (fun _ => ⟨this, by omega⟩)
        · have : coS p (v 4) k = 2 * lg - k - (p.ln - k - 1) + 6 * rkS p k := by unfold coS; rw [if_pos (by omega), ← elg]; omega
          exact ⟨rgO (by omega) (by omega), both 1 _ (rgO (by omega) (by omega)) (Or.inr rfl) (fun _ => ⟨this, by omega⟩) (fun w => absurd w (by decide))⟩
      refine ⟨fun z2 => lo _ ?_, fun z2 => lo _ ?_⟩
      · unfold lgS; rw [if_pos (by omega)]; omega
      · unfold lgS; rw [if_neg (by omega)]
    · rw [show (p.ln - k).toNat = (p.ln - (k + 1)).toNat + 1 by omega, brG, if_neg (fun z => y z.1)] at hr
      exact ⟨rgO (by omega) (by omega), ih b l ft (k + 1) ⟨by omega, by omega, b0, l0, hft, l', hl', hr⟩ (by omega)⟩
theorem mWide_sp {Q : Int → Prop} (h : PtP (gI m 280) (whB x) p) (hI : InvPt p) (x0 : 0 ≤ x) (x1 : x < 32) (hv : SeP (gI m 280) v) (w0 : 0 ≤ v 4) (w1 : v 4 ≤ 40) (h1 : wideS p (v 4) → Q 1) (h0 : ¬ wideS p (v 4) → Q 0) : wp_X10_isTooWide x m Q := by
  have h3 := hI.2.2.1
  have h4 := hI.2.2.2.1
  have hb : brS p (v 4) = -9 ∨ (1 ≤ brS p (v 4) ∧ brS p (v 4) < p.ln ∧ v 4 < p.ln) := by
    by_cases hw : p.ln ≤ v 4
    · exact Or.inl (by unfold brS; rw [if_pos hw])
    · rcases brS_best hI (Int.not_le.mp hw) with ⟨e, _⟩ | ⟨a, b, _, _⟩
      · exact Or.inl e
      · exact Or.inr ⟨a, b, Int.not_le.mp hw⟩
  refine mBroken_sp h hI x0 x1 hv w0 w1 (longOf_sp h x0 x1 ?_)
  rintro u rfl
  refine ⟨rgO (by omega) (by omega), fun z => longOf_sp h x0 x1 (setting_sp hv (by omega) (by omega) ⟨fun y => h0 (fun w => by have := w.1; omega), fun y => h1 ⟨by omega, Or.inl z⟩⟩), fun z => setting_sp hv (by omega) (by omega) ?_⟩
  have hb := hb.resolve_left z
  have hl : lgS p (brS p (v 4)) = if brS p (v 4) ≤ p.ln - 1 - brS p (v 4) then p.ln - 1 - brS p (v 4) else brS p (v 4) := rfl
  refine ⟨fun y => h1 ⟨hb.2.2, Or.inr ?_⟩, fun y => setting_sp hv (by omega) (by omega) ⟨fun y2 => h0 (fun w => ?_), fun y2 => h1 ⟨hb.2.2, Or.inr ?_⟩⟩⟩
  · rw [hl]; split <;> omega
  · have := w.2.resolve_left z
    rw [hl] at this
    split at this <;> omega
  · rw [hl]; split <;> omega
theorem mPartOf_sp {k : Int} {Q : Int → Prop} (h : PtP (gI m 280) (whB x) p) (hI : InvPt p) (x0 : 0 ≤ x) (x1 : x < 32) (hv : SeP (gI m 280) v) (w0 : 0 ≤ v 4) (w1 : v 4 ≤ 40) (k0 : 0 ≤ k) (k1 : k ≤ 3 ∨ 10 ≤ k) (kr : k ≤ 2147483647) (hQ : Q (ptV p (v 4) k)) : wp_X10_partOf x k m Q := by
  unfold ptV at hQ
  refine mBroken_sp h hI x0 x1 hv w0 w1 ⟨fun z => speakerOf_sp h x0 x1 ?_, fun z => longOf_sp h x0 x1 ?_, fun z => ⟨fun y => longOf_sp h x0 x1 ?_, fun y => ?_⟩, fun z => ⟨fun y => ?_, fun y => ?_⟩, fun z => longOf_sp h x0 x1 ⟨rgO (by omega) (by omega), fun y => ?_, fun y => ⟨rgO (by omega) (by omega), byteOf_sp h hI x0 x1 (by omega) (by omega) ?_⟩⟩⟩
  · rw [if_pos z] at hQ; exact hQ
  · rw [if_neg (by omega), if_pos z] at hQ; exact hQ
  · rw [if_neg (by omega), if_neg (by omega), if_pos z, if_pos y] at hQ; exact hQ
  · rw [if_neg (by omega), if_neg (by omega), if_pos z, if_neg y] at hQ; exact hQ
  · rw [if_neg (by omega), if_neg (by omega), if_neg (by omega), if_pos z, if_pos y] at hQ; exact hQ
  · rw [if_neg (by omega), if_neg (by omega), if_neg (by omega), if_pos z, if_neg y] at hQ
    have hb : v 4 < p.ln := Int.not_le.mp (fun w => y (by unfold brS; rw [if_pos w]))
    rcases brS_best hI hb with ⟨e, _⟩ | ⟨e1, e2, _, _⟩
    · exact absurd e y
    · exact mRank_sp h hI x0 x1 e1 e2 hQ
  · rw [if_neg (by omega), if_neg (by omega), if_neg (by omega), if_neg (by omega), if_neg (by omega)] at hQ; exact hQ
  · rw [if_neg (by omega), if_neg (by omega), if_neg (by omega), if_neg (by omega), if_pos (by omega)] at hQ; exact hQ
end MTEXTS
