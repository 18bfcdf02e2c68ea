/-! TEXTS: what one speaker says -/
def Pt : Type := Int × Int × (Int → Int)
def Pt.sp (p : Pt) : Int := p.1
def Pt.ln (p : Pt) : Int := p.2.1
def Pt.tx (p : Pt) : Int → Int := p.2.2
def InvPt (p : Pt) : Prop := 0 ≤ p.sp ∧ p.sp ≤ 3 ∧ 1 ≤ p.ln ∧ p.ln ≤ 40 ∧ (∀ k, 0 ≤ k → k < p.ln → 32 ≤ p.tx k ∧ p.tx k ≤ 126) ∧ p.tx 0 ≠ 32
/-- the class's part at r -/
def PtC (c : Sg) (r : Nat) (p : Pt) : Prop := gI c r 0 = p.sp ∧ gL c (r + 1) = p.ln ∧ ∀ k, 0 ≤ k → k < p.ln → gI c (r + 1) k = p.tx k
/-- the reference's part at the place w of the page -/
def PtM (m : Sg) (w : Int) (p : Pt) : Prop := gI m 280 w = p.sp ∧ gI m 280 (w + 1) = p.ln ∧ ∀ k, 0 ≤ k → k < p.ln → gI m 280 (w + 2 + k) = p.tx k
abbrev wdS (p : Pt) (x a b d : Int) : Prop := x + (if d = 0 then 2 else 3) ≤ p.ln ∧ p.tx x = a ∧ p.tx (x + 1) = b ∧ (d = 0 ∨ p.tx (x + 2) = d) ∧ (x + (if d = 0 then 2 else 3) = p.ln ∨ p.tx (x + (if d = 0 then 2 else 3)) = 32)
def rkS (p : Pt) (b : Int) : Int :=
  if p.tx (b - 1) = 46 then 0 else if p.tx (b - 1) = 33 then 0 else if p.tx (b - 1) = 63 then 0 else if p.tx (b - 1) = 44 then 1 else if p.tx (b - 1) = 58 then 1
  else if wdS p (b + 1) 97 110 100 then 2 else if wdS p (b + 1) 111 114 0 then 2 else if wdS p (b + 1) 98 117 116 then 2 else 3
theorem rkS_rg (p : Pt) (b : Int) : 0 ≤ rkS p b ∧ rkS p b ≤ 3 := by
  unfold rkS
  (repeat' split) <;> omega
/-- how long the longer line is -/
def lgS (p : Pt) (b : Int) : Int := if b ≤ p.ln - 1 - b then p.ln - 1 - b else b
def coS (p : Pt) (w b : Int) : Int := if lgS p b ≤ w then lgS p b - (p.ln - 1 - lgS p b) + 6 * rkS p b else 1000 + lgS p b
def brG (p : Pt) (w : Int) : Nat → Int → Int → Int → Int
  | 0, _, b, _ => b
  | m + 1, k, b, l => if p.tx k = 32 ∧ (b = -9 ∨ coS p w k < l) then brG p w m (k + 1) k (coS p w k) else brG p w m (k + 1) b l
def brS (p : Pt) (w : Int) : Int := if p.ln ≤ w then -9 else brG p w p.ln.toNat 0 (-9) 0
abbrev wideS (p : Pt) (w : Int) : Prop := w < p.ln ∧ (brS p w = -9 ∨ w < lgS p (brS p w))
theorem lgS_rg {p : Pt} (hI : InvPt p) {b : Int} (b0 : 0 ≤ b) (b1 : b < p.ln) : 0 ≤ lgS p b ∧ lgS p b ≤ 39 ∧ b ≤ lgS p b ∧ p.ln - 1 - b ≤ lgS p b := by
  have h3 := hI.2.2.1
  have h4 := hI.2.2.2.1
  unfold lgS
  split <;> omega
theorem coS_rg {p : Pt} (hI : InvPt p) (w : Int) {b : Int} (b0 : 0 ≤ b) (b1 : b < p.ln) : -100 ≤ coS p w b ∧ coS p w b ≤ 1039 ∧ (coS p w b < 1000 ↔ lgS p b ≤ w) := by
  have h := lgS_rg hI b0 b1
  have h2 := rkS_rg p b
  have h3 := hI.2.2.1
  have h4 := hI.2.2.2.1
  unfold coS
  split
  · refine ⟨by omega, by omega, fun _ => by assumption, fun _ => by omega⟩
  · refine ⟨by omega, by omega, fun _ => by omega, fun _ => by omega⟩
/-- the blank found is narrow enough if some blank is -/
theorem brG_best {p : Pt} (hI : InvPt p) (w : Int) : ∀ (m : Nat) (k b l : Int), 0 ≤ k → k + m ≤ p.ln → (b = -9 ∨ (0 ≤ b ∧ b < p.ln ∧ p.tx b = 32 ∧ l = coS p w b)) →
    (brG p w m k b l = -9 ∧ b = -9 ∧ ∀ j, k ≤ j → j < k + m → p.tx j ≠ 32) ∨ (0 ≤ brG p w m k b l ∧ brG p w m k b l < p.ln ∧ p.tx (brG p w m k b l) = 32 ∧ (w < lgS p (brG p w m k b l) → (b = -9 ∨ w < lgS p b) ∧ ∀ j, k ≤ j → j < k + m → p.tx j = 32 → w < lgS p j)) := by
  intro m
  induction m with
  | zero =>
    intro k b l _ _ hb
    rcases hb with rfl | ⟨b0, b1, b2, _⟩
    · exact Or.inl ⟨rfl, rfl, fun j j0 j1 => by omega⟩
    · exact Or.inr ⟨b0, b1, b2, fun hw => ⟨Or.inr hw, fun j j0 j1 => by omega⟩⟩
  | succ m ih =>
    intro k b l k0 k1 hb
    have ck := coS_rg hI w k0 (by omega)
    rw [brG]
    split
    · rename_i hc
      have := ih (k + 1) k (coS p w k) (by omega) (by omega) (Or.inr ⟨k0, by omega, hc.1, rfl⟩)
      rcases this with ⟨_, h2, _⟩ | ⟨g0, g1, g2, g3⟩
      · omega
      · refine Or.inr ⟨g0, g1, g2, fun hw => ?_⟩
        obtain ⟨g4, g5⟩ := g3 hw
        have hk : w < lgS p k := g4.elim (fun z => by omega) id
        refine ⟨?_, fun j j0 j1 ej => ?_⟩
        · rcases hb with hb | ⟨b0, b1, b2, rfl⟩
          · exact Or.inl hb
          · refine Or.inr ?_
            have cb := coS_rg hI w b0 b1
            rcases hc.2 with z | z
            · omega
            · omega
        · by_cases e : j = k
          · rw [e]; exact hk
          · exact g5 j (by omega) (by omega) ej
    · rename_i hc
      have := ih (k + 1) b l (by omega) (by omega) hb
      rcases this with ⟨g1, g2, g3⟩ | ⟨g0, g1, g2, g3⟩
      · refine Or.inl ⟨g1, g2, fun j j0 j1 ej => ?_⟩
        by_cases e : j = k
        · exact hc ⟨e ▸ ej, Or.inl g2⟩
        · exact g3 j (by omega) (by omega) ej
      · refine Or.inr ⟨g0, g1, g2, fun hw => ?_⟩
        obtain ⟨g4, g5⟩ := g3 hw
        refine ⟨g4, fun j j0 j1 ej => ?_⟩
        by_cases e : j = k
        · subst e
          rcases hb with rfl | ⟨b0, b1, b2, rfl⟩
          · exact absurd ⟨ej, Or.inl rfl⟩ hc
          · have cb := coS_rg hI w b0 b1
            have hlb : w < lgS p b := g4.elim (fun z => by omega) id
            have : ¬ coS p w j < coS p w b := fun z => hc ⟨ej, Or.inr z⟩
            omega
        · exact g5 j (by omega) (by omega) ej
theorem brS_best {p : Pt} (hI : InvPt p) {w : Int} (h : w < p.ln) : (brS p w = -9 ∧ ∀ j, 0 ≤ j → j < p.ln → p.tx j ≠ 32) ∨ (1 ≤ brS p w ∧ brS p w < p.ln ∧ p.tx (brS p w) = 32 ∧ (w < lgS p (brS p w) → ∀ j, 0 ≤ j → j < p.ln → p.tx j = 32 → w < lgS p j)) := by
  have h3 := hI.2.2.1
  unfold brS
  rw [if_neg (by omega)]
  rcases brG_best hI w p.ln.toNat 0 (-9) 0 (by omega) (by omega) (Or.inl rfl) with ⟨g1, _, g3⟩ | ⟨g0, g1, g2, g3⟩
  · exact Or.inl ⟨g1, fun j j0 j1 => g3 j j0 (by omega)⟩
  · refine Or.inr ⟨?_, g1, g2, fun hw j j0 j1 => (g3 hw).2 j j0 (by omega)⟩
    by_cases e : brG p w p.ln.toNat 0 (-9) 0 = 0
    · rw [e] at g2
      exact absurd g2 hI.2.2.2.2.2
    · omega
theorem wideS_iff {p : Pt} (hI : InvPt p) {w : Int} : wideS p w ↔ w < p.ln ∧ ∀ j, 0 ≤ j → j < p.ln → p.tx j = 32 → w < lgS p j := by
  unfold wideS
  refine ⟨fun ⟨h, g⟩ => ⟨h, ?_⟩, fun ⟨h, g⟩ => ⟨h, ?_⟩⟩
  · rcases brS_best hI h with ⟨e, k⟩ | ⟨a, _, _, k⟩
    · exact fun j j0 j1 ej => absurd ej (k j j0 j1)
    · exact k (g.elim (fun z => by omega) id)
  · rcases brS_best hI h with ⟨e, k⟩ | ⟨a, a1, a2, k⟩
    · exact Or.inl e
    · exact Or.inr (g _ (by omega) a1 a2)
section TEXTC
variable {c : Sg} {r : Nat} {p : Pt}
theorem PtC.kept {c' : Sg} (h : PtC c r p) {lo hi : Nat} (hf : frC c c' lo hi) (hd : hi ≤ r ∨ r + 2 ≤ lo) : PtC c' r p := by
  obtain ⟨h1, h2, h3⟩ := h
  refine ⟨((hf.1 r (by omega)).1 0).trans h1, (hf.2.1 (r + 1)).trans h2, fun k k0 k1 => ?_⟩
  rw [(hf.1 (r + 1) (by omega)).1 k]
  exact h3 k k0 k1
theorem bytes_sp {Q : Int → Prop} (h : PtC c r p) (hQ : Q p.ln) : wp_X2_bytes r c Q := by
  unfold wp_X2_bytes
  rw [h.2.1]
  exact hQ
theorem byteAt_sp {x : Int} {Q : Int → Prop} (h : PtC c r p) (hQ : Q (if 0 ≤ x ∧ x < p.ln then p.tx x else -9)) : wp_X2_byteAt r x c Q := by
  have e := h.2.1
  refine ⟨fun z => ?_, fun z => ⟨fun y => ?_, fun y => ⟨by omega, by omega, ?_⟩⟩⟩
  · rw [if_neg (by omega)] at hQ; exact hQ
  · rw [if_neg (by omega)] at hQ; exact hQ
  · rw [if_pos (by omega)] at hQ
    rw [h.2.2 x (by omega) (by omega)]
    exact hQ
theorem longerLine_sp {x : Int} {Q : Int → Prop} (h : PtC c r p) (hI : InvPt p) (x0 : 0 ≤ x) (x1 : x < p.ln) (hQ : Q (lgS p x)) : wp_X2_longerLine r x c Q := by
  have e := h.2.1
  have h4 := hI.2.2.2.1
  rintro w rfl
  rw [e]
  unfold lgS at hQ
  refine ⟨rgO (by omega) (by omega), fun z => ?_, fun z => ?_⟩
  · rw [if_pos z] at hQ; exact hQ
  · rw [if_neg z] at hQ; exact hQ
theorem isWord_sp {x a b d : Int} {z : Nat} {Q : Int → Prop} (h : PtC c r p) (hI : InvPt p) (x0 : 0 ≤ x) (x1 : x ≤ p.ln) (hl : strL z = if d = 0 then 2 else 3) (ha : strC z 0 = a) (hb : strC z 1 = b) (hd : d ≠ 0 → strC z 2 = d) (a9 : a ≠ -9) (b9 : b ≠ -9) (d9 : d ≠ -9) (h1 : wdS p x a b d → Q 1) (h0 : ¬ wdS p x a b d → Q 0) : wp_X2_isWord r x z c Q := by
  have h4 := hI.2.2.2.1
  intro P hP
  have last : p.tx x = a → p.tx (x + 1) = b → (d = 0 ∨ p.tx (x + 2) = d) → x + (if d = 0 then 2 else 3) ≤ p.ln → P (if d = 0 then 2 else 3) := fun g1 g2 g3 g4 => by
    refine hP _ ⟨fun _ => ⟨rgO (by split at hl <;> omega) (by split at hl <;> omega), byteAt_sp h ?_⟩, fun y => absurd (by rw [hl]; exact Int.le_refl _) y⟩
    rw [hl]
    by_cases e : x + (if d = 0 then 2 else 3) = p.ln
    · rw [if_neg (by omega)]
      exact ⟨fun _ => h1 ⟨g4, g1, g2, g3, Or.inl e⟩, fun _ => ⟨fun _ => h1 ⟨g4, g1, g2, g3, Or.inl e⟩, fun y => absurd rfl y⟩⟩
    · have hn : 0 ≤ x + (if d = 0 then 2 else 3) := by split <;> omega
      rw [if_pos ⟨hn, by omega⟩]
      have hb := hI.2.2.2.2.1 (x + (if d = 0 then 2 else 3)) hn (by omega)
      exact ⟨fun y => h1 ⟨g4, g1, g2, g3, Or.inr y⟩, fun y => ⟨fun w => by omega, fun _ => h0 (fun ⟨_, _, _, _, w⟩ => w.elim e y)⟩⟩
  have l2 : 2 ≤ strL z := by rw [hl]; split <;> omega
  refine hP 0 ⟨fun y => by omega, fun _ => ⟨rgO (by omega) (by omega), byteAt_sp h ⟨by omega, by omega, fun y => ⟨rgO (by omega) (by omega), ?_⟩, fun y => h0 (fun ⟨g1, g2, _⟩ => y ?_)⟩⟩⟩
  rotate_left
  · have : 0 ≤ x + 0 ∧ x + 0 < p.ln := by split at g1 <;> omega
    rw [if_pos this, ha, Int.add_zero]
    exact g2
  have y1 : x < p.ln ∧ p.tx x = a := by
    rw [ha, Int.add_zero] at y
    split at y
    · exact ⟨by omega, y⟩
    · exact absurd y.symm a9
  refine hP (0 + 1) ⟨fun y => by omega, fun _ => ⟨rgO (by omega) (by omega), byteAt_sp h ⟨by omega, by omega, fun y => ⟨rgO (by omega) (by omega), ?_⟩, fun y => h0 (fun ⟨g1, _, g2, _⟩ => y ?_)⟩⟩⟩
  rotate_left
  · have : 0 ≤ x + (0 + 1) ∧ x + (0 + 1) < p.ln := by split at g1 <;> omega
    rw [if_pos this]
    exact g2.trans hb.symm
  have y2 : x + 1 < p.ln ∧ p.tx (x + 1) = b := by
    have y : (if 0 ≤ x + 1 ∧ x + 1 < p.ln then p.tx (x + 1) else -9) = strC z 1 := y
    rw [hb] at y
    split at y
    · exact ⟨by omega, y⟩
    · exact absurd y.symm b9
  by_cases ed : d = 0
  · have := last y1.2 y2.2 (Or.inl ed) (by rw [if_pos ed]; omega)
    rw [if_pos ed] at this
    exact this
  · rw [if_neg ed] at hl last
    refine hP (0 + 1 + 1) ⟨fun y => by omega, fun _ => ⟨rgO (by omega) (by omega), byteAt_sp h ⟨by omega, by omega, fun y => ⟨rgO (by omega) (by omega), ?_⟩, fun y => h0 (fun ⟨g1, _, _, g2, _⟩ => y ?_)⟩⟩⟩
    · have y : (if 0 ≤ x + 2 ∧ x + 2 < p.ln then p.tx (x + 2) else -9) = strC z 2 := y
      rw [hd ed] at y
      split at y
      · exact last y1.2 y2.2 (Or.inr y) (by omega)
      · exact absurd y.symm d9
    · rw [if_neg ed] at g1
      have : 0 ≤ x + (0 + 1 + 1) ∧ x + (0 + 1 + 1) < p.ln := by omega
      rw [if_pos this]
      exact (g2.resolve_left ed).trans (hd ed).symm
theorem rankOf_sp {x : Int} {Q : Int → Prop} (h : PtC c r p) (hI : InvPt p) (x0 : 1 ≤ x) (x1 : x < p.ln) (hQ : Q (rkS p x)) : wp_X2_rankOf r x c Q := by
  have h4 := hI.2.2.2.1
  refine ⟨rgO (by omega) (by omega), byteAt_sp h ?_⟩
  rw [if_pos ⟨by omega, by omega⟩]
  unfold rkS at hQ
  refine ⟨fun y => by rw [if_pos y] at hQ; exact hQ, fun y => ?_⟩
  rw [if_neg y] at hQ
  refine ⟨fun y => by rw [if_pos y] at hQ; exact hQ, fun y => ?_⟩
  rw [if_neg y] at hQ
  refine ⟨fun y => by rw [if_pos y] at hQ; exact hQ, fun y => ?_⟩
  rw [if_neg y] at hQ
  refine ⟨fun y => by rw [if_pos y] at hQ; exact hQ, fun y => ?_⟩
  rw [if_neg y] at hQ
  refine ⟨fun y => by rw [if_pos y] at hQ; exact hQ, fun y => ?_⟩
  rw [if_neg y] at hQ
  rintro w rfl
  refine ⟨rgO (by omega) (by omega), isWord_sp (a := 97) (b := 110) (d := 100) h hI (by omega) (by omega) (by decide) (by decide) (by decide) (fun _ => by decide) (by omega) (by omega) (by omega) (fun y => ⟨fun z => by omega, fun _ => ?_⟩) (fun y => ⟨fun _ => ?_, fun z => absurd rfl z⟩)⟩
  · rw [if_pos y] at hQ; exact hQ
  rw [if_neg y] at hQ
  refine isWord_sp (a := 111) (b := 114) (d := 0) h hI (by omega) (by omega) (by decide) (by decide) (by decide) (fun z => absurd rfl z) (by omega) (by omega) (by omega) (fun y => ⟨fun z => by omega, fun _ => ?_⟩) (fun y => ⟨fun _ => ?_, fun z => absurd rfl z⟩)
  · rw [if_pos y] at hQ; exact hQ
  rw [if_neg y] at hQ
  refine isWord_sp (a := 98) (b := 117) (d := 116) h hI (by omega) (by omega) (by decide) (by decide) (by decide) (fun _ => by decide) (by omega) (by omega) (by omega) (fun y => ⟨fun z => by omega, fun _ => ?_⟩) (fun y => ⟨fun _ => ?_, fun z => absurd rfl z⟩)
  · rw [if_pos y] at hQ; exact hQ
  · rw [if_neg y] at hQ; exact hQ
theorem brokenAt_sp {w : Int} {Q : Int → Prop} (h : PtC c r p) (hI : InvPt p) (w0 : 0 ≤ w) (w1 : w ≤ 40) (hQ : Q (brS p w)) : wp_X2_brokenAt r w c Q := by
  have e := h.2.1
  have h3 := hI.2.2.1
  have h4 := hI.2.2.2.1
  unfold brS at hQ
  refine ⟨fun z => ?_, fun z => by rw [if_pos (by omega)] at hQ; exact hQ⟩
  rw [if_neg (by omega)] at hQ
  intro P hP
  refine lq3 (P := P) (fun _ _ k => (p.ln - k).toNat) (fun b l k => 0 ≤ k ∧ k ≤ p.ln ∧ rgI b ∧ rgI l ∧ brG p w (p.ln - k).toNat k b l = brG p w p.ln.toNat 0 (-9) 0) ?_ (-9) 0 0 ⟨by omega, by omega, rgO (by omega) (by omega), rgO (by omega) (by omega), by rw [Int.sub_zero]⟩
  rintro b l k ⟨k0, k1, b0, l0, hr⟩ ih
  refine hP b l k ⟨fun z => ?_, fun z => ⟨k0, by omega, fun y => ?_, fun y => ?_⟩⟩
  · rw [show (p.ln - k).toNat = 0 by omega] at hr
    rw [← hr] at hQ
    exact hQ
  · rw [show (p.ln - k).toNat = (p.ln - (k + 1)).toNat + 1 by omega, brG] at hr
    rw [h.2.2 k k0 (by omega)] at y
    have kp : 1 ≤ k := by
      by_cases ek : k = 0
      · rw [ek] at y; exact absurd y hI.2.2.2.2.2
      · omega
    have ck := coS_rg hI w k0 (by omega)
    have lk := lgS_rg hI k0 (by omega)
    have rk := rkS_rg p k
    have skip : ¬ (b = -9 ∨ coS p w k < l) → wj_X2_brokenAt_114 P r w b l k c Q := fun g => by
      rw [if_neg (fun z => g z.2)] at hr
      exact ⟨rgO (by omega) (by omega), ih b l (k + 1) ⟨by omega, by omega, b0, l0, hr⟩ (by omega)⟩
    have take : (b = -9 ∨ coS p w k < l) → wj_X2_brokenAt_108 P r w k (coS p w k) c Q := fun g => by
      rw [if_pos ⟨y, g⟩] at hr
      exact ⟨rgO (by omega) (by omega), ih k _ (k + 1) ⟨by omega, by omega, rgO (by omega) (by omega), rgO (by omega) (by omega), hr⟩ (by omega)⟩
    have both : wj_X2_brokenAt_94 P r w b l k (coS p w k) c Q :=
      ⟨fun g => take (Or.inl g), fun g => ⟨fun g2 => skip (fun z => z.elim g (by omega)), fun g2 => take (Or.inr (by omega))⟩⟩
    refine longerLine_sp h hI k0 (by omega) ?_
    rintro u rfl
    rw [e]
    refine ⟨rgO (by omega) (by omega), fun g => rankOf_sp h hI kp (by omega) ?_, fun g => ?_⟩
    · have : coS p w k = lgS p k - (p.ln - 1 - lgS p k) + 6 * rkS p k := by unfold coS; rw [if_pos g]
      rw [← this]
      exact ⟨rgO (by omega) (by omega), both⟩
    · have : coS p w k = 1000 + lgS p k := by unfold coS; rw [if_neg g]
      rw [← this]
      exact ⟨rgO (by omega) (by omega), both⟩
  · rw [show (p.ln - k).toNat = (p.ln - (k + 1)).toNat + 1 by omega, brG] at hr
    rw [h.2.2 k k0 (by omega)] at y
    rw [if_neg (fun z => y z.1)] at hr
    exact ⟨rgO (by omega) (by omega), ih b l (k + 1) ⟨by omega, by omega, b0, l0, hr⟩ (by omega)⟩
theorem tooWide_sp {w : Int} {Q : Int → Prop} (h : PtC c r p) (hI : InvPt p) (w0 : 0 ≤ w) (w1 : w ≤ 40) (hQ : Q (if wideS p w then 1 else 0)) : wp_X2_isTooWide r w c Q := by
  have e := h.2.1
  have h3 := hI.2.2.1
  have h4 := hI.2.2.2.1
  refine ⟨fun z P hP => ?_, fun z P hP => ?_⟩
  · rw [if_neg (fun y => by have := y.1; omega)] at hQ
    exact hP 0 0 ⟨fun _ => ⟨Or.inl rfl, hQ⟩, fun y => absurd rfl y⟩
  · have done : (∃ j, 0 ≤ j ∧ j < p.ln ∧ p.tx j = 32 ∧ lgS p j ≤ w) → Q 0 := fun ⟨j, j0, j1, j2, j3⟩ => by
      rw [if_neg (fun y => by have := ((wideS_iff hI).mp y).2 j j0 j1 j2; omega)] at hQ
      exact hQ
    refine lq2 (P := P) (fun _ k => (p.ln + 1 - k).toNat) (fun u k => 0 ≤ k ∧ k ≤ p.ln ∧ ((u = 0 ∧ Q 0) ∨ (u = 1 ∧ ∀ j, 0 ≤ j → j < k → p.tx j = 32 → w < lgS p j))) ?_ 1 0 ⟨by omega, by omega, Or.inr ⟨rfl, fun j j0 j1 => by omega⟩⟩
    rintro u k ⟨k0, k1, hu⟩ ih
    rcases hu with ⟨rfl, hu⟩ | ⟨rfl, hu⟩
    · exact hP 0 k ⟨fun _ => ⟨Or.inl rfl, hu⟩, fun y => absurd rfl y⟩
    · refine hP 1 k ⟨fun y => by omega, fun _ => ⟨fun y => ⟨Or.inr rfl, ?_⟩, fun y => ⟨k0, by omega, fun g => longerLine_sp h hI k0 (by omega) ?_, fun g => ⟨rgO (by omega) (by omega), ih 1 (k + 1) ⟨by omega, by omega, Or.inr ⟨rfl, fun j j0 j1 ej => ?_⟩⟩ (by omega)⟩⟩⟩⟩
      · rw [if_pos ((wideS_iff hI).mpr ⟨by omega, fun j j0 j1 => hu j j0 (by omega)⟩)] at hQ
        exact hQ
      · rw [h.2.2 k k0 (by omega)] at g
        refine ⟨fun g2 => ⟨rgO (by omega) (by omega), ih 1 (k + 1) ⟨by omega, by omega, Or.inr ⟨rfl, fun j j0 j1 ej => ?_⟩⟩ (by omega)⟩, fun g2 => ⟨rgO (by omega) (by omega), ih 0 (k + 1) ⟨by omega, by omega, Or.inl ⟨rfl, done ⟨k, k0, by omega, g, by omega⟩⟩⟩ (by omega)⟩⟩
        by_cases e2 : j = k
        · rw [e2]; exact g2
        · exact hu j j0 (by omega) ej
      · rw [h.2.2 k k0 (by omega)] at g
        by_cases e2 : j = k
        · exact absurd (e2 ▸ ej) g
        · exact hu j j0 (by omega) ej
end TEXTC
