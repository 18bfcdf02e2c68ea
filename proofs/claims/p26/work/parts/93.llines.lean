/-! the law: order of the subtitles, lines, widths, shot changes near by -/
theorem nxG_all {f : Int → Int} {x : Int} : ∀ (m : Nat) (k : Int), nxG f x m k = -9 → ∀ j, k ≤ j → j < k + m → 0 ≤ k → f j ≤ x := by
  intro m
  induction m with
  | zero => intro k _ j j0 j1; omega
  | succ m ih =>
    intro k h j j0 j1 k0
    rw [nxG] at h
    split at h
    · by_cases e : j = k
      · rw [e]; assumption
      · exact ih (k + 1) h j (by omega) (by omega) (by omega)
    · omega
theorem nxG_first {f : Int → Int} {x : Int} : ∀ (m : Nat) (k : Int), nxG f x m k ≠ -9 → ∀ j, k ≤ j → j < nxG f x m k → f j ≤ x := by
  intro m
  induction m with
  | zero => intro k h; exact absurd rfl h
  | succ m ih =>
    intro k h j j0 j1
    rw [nxG] at h j1
    split at h
    · rename_i hc
      rw [if_pos hc] at j1
      by_cases e : j = k
      · rw [e]; exact hc
      · exact ih (k + 1) h j (by omega) j1
    · rename_i hc
      rw [if_neg hc] at j1
      omega
theorem brG_min {p : Pt} {w : Int} : ∀ (m : Nat) (k b l : Int), 0 ≤ k → (b = -9 ∨ l = coS p w b) → brG p w m k b l = -9 ∨ ((b ≠ -9 → coS p w (brG p w m k b l) ≤ coS p w b) ∧ ∀ j, k ≤ j → j < k + m → p.tx j = 32 → coS p w (brG p w m k b l) ≤ coS p w j) := by
  intro m
  induction m with
  | zero =>
    intro k b l k0 hb
    by_cases e : b = -9
    · exact Or.inl e
    · exact Or.inr ⟨fun _ => Int.le_refl _, fun j j0 j1 => by omega⟩
  | succ m ih =>
    intro k b l k0 hb
    rw [brG]
    split
    · rename_i hc
      rcases ih (k + 1) k (coS p w k) (by omega) (Or.inr rfl) with g | ⟨g1, g2⟩
      · exact Or.inl g
      · have g1 := g1 (by omega)
        refine Or.inr ⟨fun hb9 => ?_, fun j j0 j1 hj => ?_⟩
        · have h1 := hb.resolve_left hb9
          have h2 := hc.2.resolve_left hb9
          omega
        · by_cases e : j = k
          · rw [e]; exact g1
          · exact g2 j (by omega) (by omega) hj
    · rename_i hc
      rcases ih (k + 1) b l (by omega) hb with g | ⟨g1, g2⟩
      · exact Or.inl g
      · refine Or.inr ⟨g1, fun j j0 j1 hj => ?_⟩
        by_cases e : j = k
        · subst e
          by_cases e9 : b = -9
          · exact absurd ⟨hj, Or.inl e9⟩ hc
          · have h1 := hb.resolve_left e9
            have h2 : ¬ coS p w j < l := fun z => hc ⟨hj, Or.inr z⟩
            have := g1 e9
            omega
        · exact g2 j (by omega) (by omega) hj
theorem nrG_sp {f : Int → Int} {x : Int} : ∀ (m : Nat) (k b l : Int), (nrG f x m k b l = b ∧ ∀ j, k ≤ j → j < k + m → l ≤ jAbs (f j - x)) ∨ ∃ j, k ≤ j ∧ j < k + m ∧ jAbs (f j - x) < l ∧ nrG f x m k b l = f j ∧ ∀ i, k ≤ i → i < k + m → jAbs (f j - x) ≤ jAbs (f i - x) := by
  intro m
  induction m with
  | zero => intro k b l; exact Or.inl ⟨rfl, fun j j0 j1 => by omega⟩
  | succ m ih =>
    intro k b l
    rw [nrG]
    split
    · rename_i hc
      refine Or.inr ?_
      rcases ih (k + 1) (f k) (jAbs (f k - x)) with ⟨g1, g2⟩ | ⟨j, j0, j1, g1, g2, g3⟩
      · refine ⟨k, by omega, by omega, hc, g1, fun i i0 i1 => ?_⟩
        by_cases e : i = k
        · rw [e]; exact Int.le_refl _
        · exact g2 i (by omega) (by omega)
      · refine ⟨j, by omega, by omega, by omega, g2, fun i i0 i1 => ?_⟩
        by_cases e : i = k
        · rw [e]; omega
        · exact g3 i (by omega) (by omega)
    · rename_i hc
      rcases ih (k + 1) b l with ⟨g1, g2⟩ | ⟨j, j0, j1, g1, g2, g3⟩
      · refine Or.inl ⟨g1, fun j j0 j1 => ?_⟩
        by_cases e : j = k
        · rw [e]; omega
        · exact g2 j (by omega) (by omega)
      · refine Or.inr ⟨j, by omega, by omega, g1, g2, fun i i0 i1 => ?_⟩
        by_cases e : i = k
        · rw [e]; omega
        · exact g3 i (by omega) (by omega)
/-- a part's answers -/
abbrev prt (A : St) (i p : Int) : Pt := if p = 0 then (A.T i).one else (A.T i).two
theorem partQ_v {A : St} {i p x : Int} (i0 : 0 ≤ i) (i1 : i < A.tn) (p0 : 0 ≤ p) (p1 : p ≤ 1) (hp : p < (A.T i).p) (hx : 0 ≤ x ∧ (x ≤ 3 ∨ 10 ≤ x)) : partQ A i p x = ptV (prt A i p) (A.v 4) x := by
  unfold partQ
  rw [if_neg (fun z => z ⟨i0, i1, p0, p1, hx⟩), if_neg (by omega)]
theorem partQ_no {A : St} {i p x : Int} (i0 : 0 ≤ i) (i1 : i < A.tn) (p0 : 0 ≤ p) (p1 : p ≤ 1) (hp : (A.T i).p ≤ p) (hx : 0 ≤ x ∧ (x ≤ 3 ∨ 10 ≤ x)) : partQ A i p x = -9 := by
  unfold partQ
  rw [if_neg (fun z => z ⟨i0, i1, p0, p1, hx⟩), if_pos hp]
theorem ptV_1 (p : Pt) (w : Int) : ptV p w 1 = p.ln := by
  unfold ptV
  rw [if_neg (by decide), if_pos rfl]
theorem ptV_2 (p : Pt) (w : Int) : ptV p w 2 = if brS p w = -9 then p.ln else brS p w := by
  unfold ptV
  rw [if_neg (by decide), if_neg (by decide), if_pos rfl]
theorem ptV_3 (p : Pt) (w : Int) : ptV p w 3 = if brS p w = -9 then -9 else rkS p (brS p w) := by
  unfold ptV
  rw [if_neg (by decide), if_neg (by decide), if_neg (by decide), if_pos rfl]
theorem ptV_c (p : Pt) (w : Int) {k : Int} (k0 : 0 ≤ k) : ptV p w (10 + k) = if k < p.ln then p.tx k else -9 := by
  unfold ptV
  rw [if_neg (by omega), if_neg (by omega), if_neg (by omega), if_neg (by omega), show 10 + k - 10 = k by omega]
section LAW4
variable {c : Sg} {W : Wd}
theorem order_sp (h : ClC c W) (hI : InvW W) {Q : Int → Prop} (hQ : Q 1) : wp_L_order c Q := by
  obtain ⟨n0, n1, nS, nO⟩ := hI.1.2.2.2
  intro P hP
  refine lq2 (P := P) (fun _ i => (W.A.tn - i).toNat) (fun x1 i => x1 = 1 ∧ 0 ≤ i ∧ i ≤ W.A.tn) ?_ 1 0 ⟨rfl, by omega, n0⟩
  rintro x1 i ⟨rfl, i0, i1⟩ ih
  refine hP 1 i (c_told h hI ?_)
  rw [told_8]
  refine ⟨fun _ => ⟨Or.inr rfl, hQ⟩, fun z => ⟨fun y => absurd y (by decide), fun _ => c_subtitle h hI ?_⟩⟩
  have i2 : i < W.A.tn := by omega
  have hS := nS i i0 i2
  rw [subQ_0 i0 i2]
  refine c_subtitle h hI ?_
  rw [subQ_1 i0 i2]
  have next : wj_L_order_54 P i c Q := by
    unfold wj_L_order_54 wj_L_order_59
    refine c_subtitle h hI ?_
    rw [subQ_6 i0 i2]
    have ok : wj_L_order_135 P i c Q := ⟨rgO (by omega) (by omega), ih 1 (i + 1) ⟨rfl, by omega, by omega⟩ (by omega)⟩
    refine ⟨fun y => absurd y (by decide), fun _ => ⟨fun z9 => c_told h hI ?_, fun z9 => c_subtitle h hI ?_⟩⟩
    · rw [told_8]
      refine ⟨rgO (by omega) (by omega), c_subtitle h hI ?_⟩
      rw [subQ_0 (by omega) (by omega)]
      refine c_subtitle h hI ?_
      rw [subQ_0 i0 i2]
      refine ⟨fun _ => ok, fun y => ?_⟩
      exfalso
      have g := nxG_all (f := bgS W.A.T) (x := (W.A.T i).b) (W.A.tn - (i + 1)).toNat (i + 1) z9
      have g2 := nO i (W.A.tn - 1) i0 (by omega) (by omega)
      by_cases e : i = W.A.tn - 1
      · rw [e] at y; exact y rfl
      · have g3 : (W.A.T (W.A.tn - 1)).b ≤ (W.A.T i).b := g (W.A.tn - 1) (by omega) (by omega) (by omega)
        omega
    · have hr := (nxS_rg (n := W.A.tn) (T := W.A.T) i0 i2).resolve_left z9
      have g := nxG_first (f := bgS W.A.T) (x := (W.A.T i).b) (W.A.tn - (i + 1)).toNat (i + 1) z9
      rw [subQ_0 (by omega) (by omega)]
      refine c_subtitle h hI ?_
      rw [subQ_0 i0 i2]
      refine ⟨fun y => absurd y (by omega), fun _ => ⟨rgO (by omega) (by omega), c_subtitle h hI ?_⟩⟩
      rw [subQ_0 (by omega) (by omega)]
      refine c_subtitle h hI ?_
      rw [subQ_0 i0 i2]
      refine ⟨fun _ => ok, fun y => ?_⟩
      exfalso
      have g2 := nO i (nxS W.A.tn W.A.T i - 1) i0 (by omega) (by omega)
      by_cases e : i = nxS W.A.tn W.A.T i - 1
      · rw [← e] at y; exact y rfl
      · have g3 : (W.A.T (nxS W.A.tn W.A.T i - 1)).b ≤ (W.A.T i).b := g (nxS W.A.tn W.A.T i - 1) (by omega) (show nxS W.A.tn W.A.T i - 1 < nxS W.A.tn W.A.T i by omega)
        omega
  refine ⟨fun y => absurd y (by have := hS.2.1; omega), fun _ => ⟨fun _ => next, fun y => ⟨rgO (by omega) (by omega), c_subtitle h hI ?_⟩⟩⟩
  rw [subQ_0 (by omega) (by omega)]
  refine c_subtitle h hI ?_
  rw [subQ_0 i0 i2]
  have g := nO (i - 1) i (by omega) (by omega) i2
  exact ⟨fun w => absurd w (by omega), fun _ => next⟩
theorem away_sp {x : Int} (x0 : 0 ≤ x) (x1 : x ≤ 9999) (h : ClC c W) (hI : InvW W) {Q : Int → Prop} (hQ : ∀ v, (v = 20000 ∨ ∃ j, 0 ≤ j ∧ j < W.A.sn ∧ v = jAbs (W.A.f j - x)) → (∀ j, 0 ≤ j → j < W.A.sn → v ≤ jAbs (W.A.f j - x)) → 0 ≤ v → v ≤ 20000 → Q v) : wp_L_away x c Q := by
  obtain ⟨n0, n1, nS, nO⟩ := hI.1.2.1
  intro P hP
  refine lq2 (P := P) (fun _ k => (W.A.sn - k).toNat) (fun v k => 0 ≤ k ∧ k ≤ W.A.sn ∧ (v = 20000 ∨ ∃ j, 0 ≤ j ∧ j < W.A.sn ∧ v = jAbs (W.A.f j - x)) ∧ (∀ j, 0 ≤ j → j < k → v ≤ jAbs (W.A.f j - x)) ∧ 0 ≤ v ∧ v ≤ 20000) ?_ 20000 0 ⟨by omega, n0, Or.inl rfl, fun j a b => by omega, by omega, by omega⟩
  rintro v k ⟨k0, k1, hv, hm, v0, v1⟩ ih
  refine hP v k (c_told h hI ?_)
  rw [told_7]
  refine ⟨fun z => hQ v hv (fun j a b => hm j a (by omega)) v0 v1, fun z => c_shotAt h hI ?_⟩
  have ef : shotAtQ W.A k = W.A.f k := by
    unfold shotAtQ
    rw [if_neg (by omega), if_pos (by omega)]
  have hk := nS k k0 (by omega)
  have go : ∀ d, d = jAbs (W.A.f k - x) → 0 ≤ d → wj_L_away_42 P x v k d c Q := fun d ed d0 => by
    refine ⟨fun y => ⟨rgO (by omega) (by omega), ih v (k + 1) ⟨by omega, by omega, hv, fun j a b => ?_, v0, v1⟩ (by omega)⟩, fun y => ⟨rgO (by omega) (by omega), ih d (k + 1) ⟨by omega, by omega, Or.inr ⟨k, k0, by omega, ed⟩, fun j a b => ?_, d0, by omega⟩ (by omega)⟩⟩
    · by_cases e : j = k
      · rw [e, ← ed]; exact y
      · exact hm j a (by omega)
    · by_cases e : j = k
      · rw [e, ← ed]; exact Int.le_refl _
      · have := hm j a (by omega)
        omega
  rw [ef]
  refine ⟨fun y => c_shotAt h hI ?_, fun y => c_shotAt h hI ?_⟩
  · rw [ef]
    refine ⟨rgO (by omega) (by omega), go _ ?_ (by omega)⟩
    unfold jAbs
    split <;> omega
  · rw [ef]
    refine ⟨rgO (by omega) (by omega), go _ ?_ (by omega)⟩
    unfold jAbs
    split <;> omega
theorem near_sp {x : Int} (x0 : 0 ≤ x) (x1 : x ≤ 9999) (h : ClC c W) (hI : InvW W) {Q : Int → Prop} (hQ : Q (if offS W.A.sn W.A.f (W.A.v 3) x then 1 else 0)) : wp_L_isNear x c Q := by
  obtain ⟨n0, n1, nS, nO⟩ := hI.1.2.1
  have hv := hI.1.2.2.1.rg
  refine away_sp x0 x1 h hI (fun v hv1 hm v0 v1 => ?_)
  have key : offS W.A.sn W.A.f (W.A.v 3) x ↔ (0 < v ∧ v ≤ W.A.v 3) := by
    unfold offS nrS
    rcases nrG_sp (f := W.A.f) (x := x) W.A.sn.toNat 0 (-9) (W.A.v 3 + 1) with ⟨g1, g2⟩ | ⟨j, j0, j1, g1, g2, g3⟩
    · rw [g1]
      refine ⟨fun z => absurd (Or.inl rfl) z, fun z => ?_⟩
      exfalso
      rcases hv1 with e | ⟨j, j0, j1, e⟩
      · omega
      · have := g2 j j0 (by omega)
        omega
    · rw [g2]
      have hj := nS j j0 (by omega)
      have ev : v = jAbs (W.A.f j - x) := by
        have a := hm j j0 (by omega)
        rcases hv1 with e | ⟨i, i0, i1, e⟩
        · omega
        · have := g3 i i0 (by omega)
          omega
      have hz : W.A.f j = x ↔ v = 0 := by
        rw [ev]
        unfold jAbs
        split <;> omega
      refine ⟨fun z => ?_, fun z y => ?_⟩
      · have : ¬ v = 0 := fun y => z (Or.inr (hz.mpr y))
        omega
      · rcases y with y | y
        · omega
        · have := hz.mp y
          omega
  refine ⟨fun z => ?_, fun z => c_told h hI ?_⟩
  · rw [if_neg (fun y => by have := key.mp y; omega)] at hQ
    exact hQ
  · rw [told_v (by omega) (by omega)]
    refine ⟨fun y => ?_, fun y => ?_⟩
    · rw [if_neg (fun w => by have := key.mp w; omega)] at hQ
      exact hQ
    · rw [if_pos (key.mpr ⟨by omega, by omega⟩)] at hQ
      exact hQ
/-- what a part's first line and second line tell of its width -/
theorem wide_two {p : Pt} (hP : InvPt p) {w : Int} (w0 : 0 ≤ w) : (w < ptV p w 2 ∨ w < (if ptV p w 3 = -9 then 0 else p.ln - ptV p w 2 - 1)) ↔ wideS p w := by
  have hr := rkS_rg p (brS p w)
  rw [ptV_2, ptV_3]
  by_cases e : brS p w = -9
  · rw [if_pos e, if_pos e, if_pos rfl]
    refine ⟨fun z => ⟨by omega, Or.inl e⟩, fun z => Or.inl z.1⟩
  · have hw : w < p.ln := by
      unfold brS at e
      by_cases q : p.ln ≤ w
      · rw [if_pos q] at e
        exact absurd rfl e
      · omega
    rw [if_neg e, if_neg e, if_neg (by omega)]
    have hl : w < lgS p (brS p w) ↔ (w < brS p w ∨ w < p.ln - brS p w - 1) := by
      unfold lgS
      split <;> omega
    exact ⟨fun z => ⟨hw, Or.inr (hl.mpr z)⟩, fun z => hl.mp (z.2.resolve_left e)⟩
theorem tooWideL_sp {i : Int} (i0 : 0 ≤ i) (i1 : i < W.A.tn) (h : ClC c W) (hI : InvW W) {Q : Int → Prop} (hQ : Q (if swS (W.A.T i) (W.A.v 4) then 1 else 0)) : wp_L_isTooWide i c Q := by
  have hS := hI.1.2.2.2.2.2.1 i i0 i1
  have hv := hI.1.2.2.1.rg
  obtain ⟨-, -, -, hp, hP1, hP2⟩ := hS
  intro P hQ2
  refine lq2 (P := P) (fun _ k => ((W.A.T i).p - k).toNat) (fun v k => 0 ≤ k ∧ k ≤ (W.A.T i).p ∧ (v = 0 ∨ v = 1) ∧ (v = 1 ↔ (0 < k ∧ wideS (W.A.T i).one (W.A.v 4)) ∨ (1 < k ∧ wideS (W.A.T i).two (W.A.v 4)))) ?_ 0 0 ⟨by omega, by omega, Or.inl rfl, ⟨fun z => absurd z (by decide), fun z => by omega⟩⟩
  rintro v k ⟨k0, k1, v01, hw⟩ ih
  refine hQ2 v k (c_subtitle h hI ?_)
  rw [subQ_2 i0 i1]
  refine ⟨fun z => ⟨v01, ?_⟩, fun z => c_part h hI (by omega) ?_⟩
  · have ek : k = (W.A.T i).p := by omega
    have e : (if swS (W.A.T i) (W.A.v 4) then 1 else 0 : Int) = v := by
      have hsw : swS (W.A.T i) (W.A.v 4) ↔ v = 1 := by
        rw [hw]
        refine ⟨fun y => y.elim (fun y => Or.inl ⟨by omega, y⟩) (fun y => Or.inr ⟨by omega, y.2⟩), fun y => y.elim (fun y => Or.inl y.2) (fun y => Or.inr ⟨by omega, y.2⟩)⟩
      rcases v01 with e0 | e1
      · rw [if_neg (fun y => by have := hsw.mp y; omega), e0]
      · rw [if_pos (hsw.mpr e1), e1]
    rw [e] at hQ
    exact hQ
  · have kp : k < (W.A.T i).p := by omega
    have k2 : k ≤ 1 := by omega
    have hPk : InvPt (prt W.A i k) := by
      unfold prt
      split
      · exact hP1
      · exact hP2 (by omega)
    have wide := wide_two hPk (w := W.A.v 4) (by omega)
    rw [partQ_v i0 i1 k0 k2 kp (by omega)]
    -- behind both lines
    have put : ∀ t, (t = 1 ↔ v = 1 ∨ wideS (prt W.A i k) (W.A.v 4)) → (t = 0 ∨ t = 1) → wj_L_isTooWide_83 P i k t c Q := fun t ht t01 => by
      refine ⟨rgO (by omega) (by omega), ih t (k + 1) ⟨by omega, by omega, t01, ?_⟩ (by omega)⟩
      rw [ht, hw]
      by_cases e : k = 0
      · have ep : prt W.A i k = (W.A.T i).one := if_pos e
        rw [ep]
        refine ⟨fun y => ?_, fun y => ?_⟩
        · rcases y with y | y
          · rcases y with y | y
            · omega
            · omega
          · exact Or.inl ⟨by omega, y⟩
        · rcases y with y | y
          · exact Or.inr y.2
          · omega
      · have ep : prt W.A i k = (W.A.T i).two := if_neg e
        rw [ep]
        refine ⟨fun y => ?_, fun y => ?_⟩
        · rcases y with y | y
          · rcases y with y | y
            · exact Or.inl ⟨by omega, y.2⟩
            · omega
          · exact Or.inr ⟨by omega, y⟩
        · rcases y with y | y
          · exact Or.inl (Or.inl ⟨by omega, y.2⟩)
          · exact Or.inr y.2
    have both : ∀ t, t = (if ptV (prt W.A i k) (W.A.v 4) 3 = -9 then 0 else (prt W.A i k).ln - ptV (prt W.A i k) (W.A.v 4) 2 - 1) → wj_L_isTooWide_47 P i v k t c Q := fun t et => by
      refine ⟨fun vz => c_part h hI (by omega) ?_, fun vz => put 1 ⟨fun _ => Or.inl (by omega), fun _ => rfl⟩ (Or.inr rfl)⟩
      rw [partQ_v i0 i1 k0 k2 kp (by omega)]
      refine c_told h hI ?_
      rw [told_v (by omega) (by omega)]
      refine ⟨fun y => put 1 ⟨fun _ => Or.inr (wide.mp (Or.inl y)), fun _ => rfl⟩ (Or.inr rfl), fun y => c_told h hI ?_⟩
      rw [told_v (by omega) (by omega)]
      refine ⟨fun q => put 0 ⟨fun w => absurd w (by decide), fun w => ?_⟩ (Or.inl rfl), fun q => put 1 ⟨fun _ => Or.inr (wide.mp (Or.inr (by rw [← et]; omega))), fun _ => rfl⟩ (Or.inr rfl)⟩
      exfalso
      rcases w with w | w
      · omega
      · rcases wide.mpr w with w | w
        · exact y w
        · rw [← et] at w
          omega
    refine ⟨fun y => both 0 (by rw [if_pos y]), fun y => c_part h hI (by omega) ?_⟩
    rw [partQ_v i0 i1 k0 k2 kp (by omega), ptV_1]
    refine c_part h hI (by omega) ?_
    rw [partQ_v i0 i1 k0 k2 kp (by omega)]
    have hl := hPk.2.2.1
    have hl2 := hPk.2.2.2.1
    have h2 : 0 ≤ ptV (prt W.A i k) (W.A.v 4) 2 ∧ ptV (prt W.A i k) (W.A.v 4) 2 ≤ 40 := by
      rw [ptV_2]
      by_cases e : brS (prt W.A i k) (W.A.v 4) = -9
      · rw [if_pos e]; omega
      · rw [if_neg e]
        have hw4 : W.A.v 4 < (prt W.A i k).ln := by
          unfold brS at e
          by_cases q : (prt W.A i k).ln ≤ W.A.v 4
          · rw [if_pos q] at e
            exact absurd rfl e
          · omega
        rcases brS_best hPk hw4 with ⟨a, _⟩ | ⟨a, b, _⟩
        · exact absurd a e
        · omega
    exact ⟨rgO (by omega) (by omega), both _ (by rw [if_neg y])⟩
/-- what the lines of a part tell -/
theorem lines_sp {i k : Int} (i0 : 0 ≤ i) (i1 : i < W.A.tn) (k0 : 0 ≤ k) (k2 : k ≤ 1) (kp : k < (W.A.T i).p) (h : ClC c W) (hI : InvW W) {Q : Int → Prop} (hQ : Q 1) : wp_L_lines i k c Q := by
  have hS := hI.1.2.2.2.2.2.1 i i0 i1
  have hv := hI.1.2.2.1.rg
  obtain ⟨-, -, -, hp, hP1, hP2⟩ := hS
  have hPk : InvPt (prt W.A i k) := by
    unfold prt
    split
    · exact hP1
    · exact hP2 (by omega)
  have pv := fun x (hx : 0 ≤ x ∧ (x ≤ 3 ∨ 10 ≤ x)) => partQ_v (x := x) i0 i1 k0 k2 kp hx
  have tv : toldQ W 4 = W.A.v 4 := told_v (by omega) (by omega)
  generalize hw : W.A.v 4 = w at *
  generalize prt W.A i k = p at *
  have hl1 := hPk.2.2.1
  have hl2 := hPk.2.2.2.1
  have cv := fun j (j0 : 0 ≤ j) (j1 : j < p.ln) => (show partQ W.A i k (10 + j) = p.tx j by rw [pv _ (by omega), ptV_c p w j0, if_pos j1])
  refine c_part h hI (by omega) ?_
  rw [pv 1 (by omega), ptV_1]
  refine c_part h hI (by omega) ?_
  rw [pv 2 (by omega), ptV_2]
  refine c_part h hI (by omega) ?_
  rw [pv 3 (by omega), ptV_3]
  by_cases e : brS p w = -9
  · rw [if_pos e, if_pos e]
    have noB : w < p.ln → ∀ j, 0 ≤ j → j < p.ln → p.tx j ≠ 32 := fun hlt => by
      rcases brS_best hPk hlt with ⟨_, b⟩ | ⟨a, _⟩
      · exact b
      · omega
    refine ⟨fun _ P hP => ?_, fun y => absurd rfl y⟩
    refine lq2 (P := P) (fun _ x7 => (p.ln - x7).toNat) (fun x6 x7 => 0 ≤ x7 ∧ x7 ≤ p.ln ∧ (x6 ≠ 0 → ∃ j, 0 ≤ j ∧ j < p.ln ∧ p.tx j = 32)) ?_ 0 0 ⟨by omega, by omega, fun z => absurd rfl z⟩
    rintro x6 x7 ⟨a0, a1, hb⟩ ih
    have last : wj_L_lines_99 i k p.ln c Q := by
      refine ⟨rgO (by omega) (by omega), c_part h hI (by omega) ?_⟩
      rw [pv _ (by omega), ptV_c p w (by omega), if_neg (by omega)]
      exact ⟨fun _ => hQ, fun y => absurd rfl y⟩
    have on : ∀ t, (t ≠ 0 → ∃ j, 0 ≤ j ∧ j < p.ln ∧ p.tx j = 32) → x7 < p.ln → wj_L_lines_71 P i k p.ln p.ln x7 t c Q := fun t ht z => ⟨rgO (by omega) (by omega), ih t (x7 + 1) ⟨by omega, by omega, ht⟩ (by omega)⟩
    refine hP x6 x7 ⟨fun z => ⟨fun _ => c_told h hI ?_, fun y => absurd rfl y⟩, fun z => ⟨fun y => ⟨rgO (by omega) (by omega), c_part h hI (by omega) ?_⟩, fun y => on 1 (fun _ => hb y) (by omega)⟩⟩
    · rw [tv]
      refine ⟨fun _ => last, fun y => ⟨fun _ => last, fun q => ?_⟩⟩
      exfalso
      obtain ⟨j, j0, j1, ej⟩ := hb q
      exact noB (by omega) j j0 j1 ej
    · rw [cv x7 a0 (by omega)]
      exact ⟨fun q => on 1 (fun _ => ⟨x7, a0, by omega, q⟩) (by omega), fun q => on 0 (fun w => absurd rfl w) (by omega)⟩
  · rw [if_neg e, if_neg e]
    have hlt : w < p.ln := by
      have e' := e
      unfold brS at e'
      by_cases q : p.ln ≤ w
      · rw [if_pos q] at e'
        exact absurd rfl e'
      · omega
    have hmin : ∀ j, 0 ≤ j → j < p.ln → p.tx j = 32 → coS p w (brS p w) ≤ coS p w j := fun j j0 j1 ej => by
      have e' := e
      unfold brS at e' ⊢
      rw [if_neg (by omega)] at e' ⊢
      rcases brG_min (p := p) (w := w) p.ln.toNat 0 (-9) 0 (by omega) (Or.inl rfl) with g | ⟨_, g⟩
      · exact absurd g e'
      · exact g j j0 (by omega) ej
    have hr := rkS_rg p (brS p w)
    rcases brS_best hPk hlt with ⟨a, _⟩ | ⟨b0, b1, b2, b3⟩
    · exact absurd a e
    · have hco : lgS p (brS p w) ≤ w → coS p w (brS p w) = lgS p (brS p w) - (p.ln - 1 - lgS p (brS p w)) + 6 * rkS p (brS p w) := fun q => by
        unfold coS
        rw [if_pos q]
      have hlg : lgS p (brS p w) = if brS p w ≤ p.ln - 1 - brS p w then p.ln - 1 - brS p w else brS p w := rfl
      generalize brS p w = b at *
      generalize hrk : rkS p b = rk at *
      refine ⟨fun y => absurd y (by omega), fun _ => ⟨rgO (by omega) (by omega), ?_⟩⟩
      -- the search for a better blank; t tells if both lines are short enough
      have search : ∀ price t, (t = 0 → w < lgS p b) → (t ≠ 0 → lgS p b ≤ w) → price = lgS p b - (p.ln - 1 - lgS p b) + 6 * rk → wj_L_lines_189 i k p.ln b rk price t c Q := fun price t ht0 ht1 hpr => by
        intro P hP
        refine lq1 (P := P) (fun x8 => (p.ln - x8).toNat) (fun x8 => 0 ≤ x8 ∧ x8 ≤ p.ln) ?_ 0 ⟨by omega, by omega⟩
        rintro x8 ⟨a0, a1⟩ ih
        refine hP x8 ⟨fun z => c_told h hI ?_, fun z => ⟨rgO (by omega) (by omega), c_part h hI (by omega) ?_⟩⟩
        · rw [tv]
          refine ⟨fun y => absurd y (by omega), fun _ => ⟨rgO (by omega) (by omega), c_part h hI (by omega) ?_⟩⟩
          rw [cv b (by omega) b1]
          exact ⟨fun _ => ⟨fun y => absurd y (by omega), fun _ => ⟨fun y => absurd y (by omega), fun _ => hQ⟩⟩, fun y => absurd b2 y⟩
        · rw [cv x8 a0 (by omega)]
          have next : wj_L_lines_303 P i k p.ln b rk price t x8 c Q := ⟨rgO (by omega) (by omega), ih (x8 + 1) ⟨by omega, by omega⟩ (by omega)⟩
          have cmp : ∀ cd, (cd ≠ 0 → p.tx x8 = 32 ∧ x8 ≤ w ∧ p.ln - x8 - 1 ≤ w) → wj_L_lines_245 P i k p.ln b rk price t x8 cd c Q := fun cd hcd => by
            have fin : ∀ ap, ap = lgS p x8 - (p.ln - 1 - lgS p x8) → 0 ≤ ap → ap ≤ 100 → wj_L_lines_279 P i k p.ln b rk price t x8 cd ap c Q := fun ap eap ap0 ap1 => by
              refine ⟨fun _ => next, fun y => ⟨fun q => ?_, fun q => ⟨rgO (by omega) (by omega), fun _ => next, fun u => ?_⟩⟩⟩
              · exfalso
                obtain ⟨g1, g2, g3⟩ := hcd y
                have := b3 (ht0 q) x8 a0 (by omega) g1
                unfold lgS at this
                split at this <;> omega
              · exfalso
                obtain ⟨g1, g2, g3⟩ := hcd y
                have hm := hmin x8 a0 (by omega) g1
                have hrx := rkS_rg p x8
                have hlx : lgS p x8 ≤ w := by
                  unfold lgS
                  split <;> omega
                have hcx : coS p w x8 = lgS p x8 - (p.ln - 1 - lgS p x8) + 6 * rkS p x8 := by
                  unfold coS
                  rw [if_pos hlx]
                have hcb := hco (ht1 q)
                omega
            refine ⟨rgO (by omega) (by omega), fun y => ⟨rgO (by omega) (by omega), fin _ ?_ (by omega) (by omega)⟩, fun y => ⟨rgO (by omega) (by omega), fin _ ?_ (by omega) (by omega)⟩⟩
            · unfold lgS
              rw [if_pos (by omega)]
              omega
            · unfold lgS
              rw [if_neg (by omega)]
              omega
          have no : wj_L_lines_244 P i k p.ln b rk price t x8 c Q := cmp 0 (fun y => absurd rfl y)
          refine ⟨fun y => c_told h hI ?_, fun _ => no⟩
          rw [tv]
          refine ⟨fun _ => no, fun q => c_told h hI ?_⟩
          rw [tv]
          exact ⟨rgO (by omega) (by omega), fun _ => no, fun u => cmp 1 (fun _ => ⟨y, by omega, by omega⟩)⟩
      have priced : ∀ ap, ap = lgS p b - (p.ln - 1 - lgS p b) → 0 ≤ ap → ap ≤ 100 → wj_L_lines_152 i k p.ln b rk ap c Q := fun ap eap ap0 ap1 => by
        intro price ep
        refine ⟨rgO (by omega) (by omega), c_told h hI ?_⟩
        rw [tv]
        refine ⟨fun y => search price 0 (fun _ => ?_) (fun q => absurd rfl q) (by omega), fun y => c_told h hI ?_⟩
        · rw [hlg]
          split <;> omega
        · rw [tv]
          refine ⟨rgO (by omega) (by omega), fun q => search price 0 (fun _ => ?_) (fun u => absurd rfl u) (by omega), fun q => search price 1 (fun u => absurd u (by decide)) (fun _ => ?_) (by omega)⟩
          · rw [hlg]
            split <;> omega
          · rw [hlg]
            split <;> omega
      refine ⟨fun y => ⟨rgO (by omega) (by omega), priced _ ?_ (by omega) (by omega)⟩, fun y => ⟨rgO (by omega) (by omega), priced _ ?_ (by omega) (by omega)⟩⟩
      · rw [hlg, if_pos (by omega)]
        omega
      · rw [hlg, if_neg (by omega)]
        omega
end LAW4
