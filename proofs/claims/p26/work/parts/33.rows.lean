/-! SUBTITLES and the class's tracks -/
def Sb : Type := Int × Int × Int × Pt × Pt
def Sb.b (S : Sb) : Int := S.1
def Sb.e (S : Sb) : Int := S.2.1
def Sb.p (S : Sb) : Int := S.2.2.1
def Sb.one (S : Sb) : Pt := S.2.2.2.1
def Sb.two (S : Sb) : Pt := S.2.2.2.2
def mkS (b e p : Int) (o t : Pt) : Sb := (b, e, p, o, t)
def InvSb (S : Sb) : Prop := 0 ≤ S.b ∧ S.b < S.e ∧ S.e ≤ 9999 ∧ (S.p = 1 ∨ S.p = 2) ∧ InvPt S.one ∧ (S.p = 2 → InvPt S.two)
def InvTr (n : Int) (T : Int → Sb) : Prop := 0 ≤ n ∧ n ≤ 16 ∧ (∀ j, 0 ≤ j → j < n → InvSb (T j)) ∧ ∀ i j, 0 ≤ i → i ≤ j → j < n → (T i).b ≤ (T j).b
def pcl (r : Nat) : Prop := r = 2 ∨ 293 ≤ r
/-- the class's subtitle at r -/
def SbC (c : Sg) (r : Nat) (S : Sb) : Prop := (gI c r 0 = S.b ∧ gI c r 1 = S.e ∧ gI c r 2 = S.p) ∧ (pcl (gR c r 3) ∧ PtC c (gR c r 3) S.one) ∧ (S.p = 2 → pcl (gR c r 4) ∧ PtC c (gR c r 4) S.two)
theorem PtC.frz {c c' : Sg} {r : Nat} {p : Pt} (h : PtC c r p) (hr : pcl r) {lo hi : Nat} (hf : frC c c' lo hi) (h4 : 4 ≤ lo ∨ hi ≤ 2) (h9 : hi ≤ 279) : PtC c' r p :=
  h.kept hf (by rcases hr with rfl | hr <;> omega)
theorem SbC.kept {c c' : Sg} {r : Nat} {S : Sb} (h : SbC c r S) {lo hi : Nat} (hf : frC c c' lo hi) (h4 : 4 ≤ lo ∨ hi ≤ 2) (h9 : hi ≤ 279) (hd : hi ≤ r ∨ r < lo) : SbC c' r S := by
  obtain ⟨⟨h1, h2, h3⟩, ⟨ha, hb⟩, hc⟩ := h
  have g := hf.1 r (by omega)
  unfold SbC
  rw [g.1 0, g.1 1, g.1 2, g.2 3, g.2 4]
  exact ⟨⟨h1, h2, h3⟩, ⟨ha, hb.frz ha hf h4 h9⟩, fun z => ⟨(hc z).1, (hc z).2.frz (hc z).1 hf h4 h9⟩⟩
/-- only numbers of cells at a have changed -/
def frR (c c' : Sg) (a : Nat) : Prop := (∀ b j, gI c' b j = gI c b j) ∧ (∀ b j, b ≠ a → gR c' b j = gR c b j) ∧ (∀ b, gL c' b = gL c b) ∧ gN c' = gN c
theorem frR.rf (c : Sg) (a : Nat) : frR c c a := ⟨fun _ _ => rfl, fun _ _ _ => rfl, fun _ => rfl, rfl⟩
theorem frR.sR {c : Sg} {a : Nat} {j : Int} {v : Nat} : frR c (sR c a j v) a := ⟨fun _ _ => rfl, fun _ _ h => gR_sR_ne h, fun _ => rfl, rfl⟩
theorem frR.trans {c c' c'' : Sg} {a : Nat} (h : frR c c' a) (g : frR c' c'' a) : frR c c'' a :=
  ⟨fun b j => (g.1 b j).trans (h.1 b j), fun b j n => (g.2.1 b j n).trans (h.2.1 b j n), fun b => (g.2.2.1 b).trans (h.2.2.1 b), g.2.2.2.trans h.2.2.2⟩
theorem frR.fr {c c' : Sg} {a : Nat} (h : frR c c' a) {lo hi : Nat} (h1 : lo ≤ a) (h2 : a < hi) : frC c c' lo hi :=
  ⟨fun b hb => ⟨fun j => h.1 b j, fun j => h.2.1 b j (by omega)⟩, h.2.2⟩
theorem SbC.keptR {c c' : Sg} {a r : Nat} {S : Sb} (h : SbC c r S) (hf : frR c c' a) (hr : r ≠ a) : SbC c' r S := by
  obtain ⟨⟨h1, h2, h3⟩, ⟨ha, hb⟩, hc⟩ := h
  have kp : ∀ {x : Nat} {p : Pt}, PtC c x p → PtC c' x p := fun ⟨g1, g2, g3⟩ => ⟨(hf.1 _ _).trans g1, (hf.2.2.1 _).trans g2, fun k k0 k1 => (hf.1 _ _).trans (g3 k k0 k1)⟩
  unfold SbC
  rw [hf.1 r 0, hf.1 r 1, hf.1 r 2, hf.2.1 r 3 hr, hf.2.1 r 4 hr]
  exact ⟨⟨h1, h2, h3⟩, ⟨ha, kp hb⟩, fun z => ⟨(hc z).1, kp (hc z).2⟩⟩
def RowsC (c : Sg) (q : Nat) : Prop := (∀ j, 0 ≤ j → j < 16 → q + 2 ≤ gR c (q + 1) j ∧ gR c (q + 1) j < q + 18) ∧ ∀ i j, 0 ≤ i → i < 16 → 0 ≤ j → j < 16 → gR c (q + 1) i = gR c (q + 1) j → i = j
/-- the class's track at q -/
def TrC (c : Sg) (q : Nat) (n : Int) (T : Int → Sb) : Prop := gI c q 2 = n ∧ RowsC c q ∧ ∀ j, 0 ≤ j → j < n → SbC c (gR c (q + 1) j) (T j)
/-- a track lies among the class's states -/
def trk (q : Nat) : Prop := 4 ≤ q ∧ q + 19 ≤ 279
theorem RowsC.kept {c c' : Sg} {q : Nat} (h : RowsC c q) (hg : ∀ j, gR c' (q + 1) j = gR c (q + 1) j) : RowsC c' q := by
  unfold RowsC
  simp only [hg]
  exact h
theorem TrC.kept {c c' : Sg} {q : Nat} {n : Int} {T : Int → Sb} (h : TrC c q n T) (hn : n ≤ 16) {lo hi : Nat} (hf : frC c c' lo hi) (h4 : 4 ≤ lo ∨ hi ≤ 2) (h9 : hi ≤ 279) (hd : hi ≤ q ∨ q + 18 ≤ lo) : TrC c' q n T := by
  obtain ⟨h1, h2, h3⟩ := h
  have hg := (hf.1 (q + 1) (by omega)).2
  refine ⟨((hf.1 q (by omega)).1 2).trans h1, h2.kept hg, fun j j0 j1 => ?_⟩
  rw [hg j]
  have := h2.1 j j0 (by omega)
  exact (h3 j j0 j1).kept hf h4 h9 (by omega)
theorem TrC.congr {c : Sg} {q : Nat} {n : Int} {T T' : Int → Sb} (h : TrC c q n T) (hT : ∀ j, 0 ≤ j → j < n → T j = T' j) : TrC c q n T' :=
  ⟨h.1, h.2.1, fun j j0 j1 => hT j j0 j1 ▸ h.2.2 j j0 j1⟩
theorem rgb {S : Sb} (h : InvSb S) : 0 ≤ S.b ∧ S.b < S.e ∧ S.e ≤ 9999 := ⟨h.1, h.2.1, h.2.2.1⟩
section ROWS
variable {c : Sg} {q r : Nat} {n : Int} {T : Int → Sb} {S : Sb}
def chS (S : Sb) : Int := if S.p = 2 then S.one.ln + S.two.ln + 4 else S.one.ln
theorem chS_rg (h : InvSb S) : 1 ≤ chS S ∧ chS S ≤ 84 := by
  obtain ⟨-, -, -, -, h1, h2⟩ := h
  unfold chS
  split
  · rename_i hp
    have a := h1.2.2
    have b := (h2 hp).2.2
    omega
  · have a := h1.2.2
    omega
theorem characters_sp {Q : Int → Prop} (h : SbC c r S) (hI : InvSb S) (hQ : Q (chS S)) : wp_X6_characters r c Q := by
  have hc := chS_rg hI
  unfold chS at hQ hc
  obtain ⟨⟨h1, h2, h3⟩, ⟨ha, hb⟩, hd⟩ := h
  unfold wp_X6_characters
  rw [h3]
  refine ⟨fun z => bytes_sp hb (bytes_sp (hd z).2 ?_), fun z => bytes_sp hb ?_⟩
  · rw [if_pos z] at hQ hc
    exact ⟨rgO (by omega) (by omega), hQ⟩
  · rw [if_neg z] at hQ
    exact hQ
theorem length_sp {Q : Int → Prop} (h : SbC c r S) (hI : InvSb S) (hQ : Q (S.e - S.b)) : wp_X6_length r c Q := by
  have a := rgb hI
  unfold wp_X6_length
  rw [h.1.1, h.1.2.1]
  exact ⟨rgO (by omega) (by omega), hQ⟩
abbrev swS (S : Sb) (w : Int) : Prop := wideS S.one w ∨ (S.p = 2 ∧ wideS S.two w)
theorem subWide_sp {w : Int} {Q : Int → Prop} (h : SbC c r S) (hI : InvSb S) (w0 : 0 ≤ w) (w1 : w ≤ 40) (h1 : swS S w → Q 1) (h0 : ¬ swS S w → Q 0) : wp_X6_isTooWide r w c Q := by
  obtain ⟨⟨g1, g2, g3⟩, ⟨ha, hb⟩, hd⟩ := h
  obtain ⟨-, -, -, -, i1, i2⟩ := hI
  refine tooWide_sp hb i1 w0 w1 ?_
  rw [g3]
  split
  · rename_i hw
    exact ⟨fun z => by omega, fun _ => h1 (Or.inl hw)⟩
  · rename_i hw
    refine ⟨fun _ => ⟨fun z => tooWide_sp (hd z).2 (i2 z) w0 w1 ?_, fun z => h0 (fun y => y.elim hw (fun y => z y.1))⟩, fun z => absurd rfl z⟩
    split
    · rename_i hw2
      exact ⟨fun z => by omega, fun _ => h1 (Or.inr ⟨z, hw2⟩)⟩
    · rename_i hw2
      exact ⟨fun _ => h0 (fun y => y.elim hw (fun y => hw2 y.2)), fun z => absurd rfl z⟩
abbrev ovS (S S' : Sb) : Prop := S.p = 1 ∧ S'.p = 1 ∧ S.one.sp ≠ S'.one.sp ∧ 0 < min S.e S'.e - S'.b ∧ min (S.e - S.b) (S'.e - S'.b) ≤ 2 * (min S.e S'.e - S'.b)
theorem overlaps_sp {r' : Nat} {S' : Sb} {Q : Int → Prop} (h : SbC c r S) (hI : InvSb S) (h' : SbC c r' S') (hI' : InvSb S') (hb : S.b ≤ S'.b) (h1 : ovS S S' → Q 1) (h0 : ¬ ovS S S' → Q 0) : wp_X6_overlaps r r' c Q := by
  have b1 := rgb hI
  have b2 := rgb hI'
  unfold wp_X6_overlaps
  rw [h.1.1, h.1.2.1, h.1.2.2, h'.1.1, h'.1.2.1, h'.1.2.2, h.2.1.2.1, h'.2.1.2.1]
  refine ⟨fun z => ⟨fun z2 => ⟨fun z3 => h0 (fun y => y.2.2.1 z3), fun z3 => ?_⟩, fun z2 => h0 (fun y => z2 y.2.1)⟩, fun z => h0 (fun y => z y.1)⟩
  rintro w rfl
  rw [show max S.b S'.b = S'.b by omega]
  refine ⟨rgO (by omega) (by omega), fun z4 => h0 (fun y => by have := y.2.2.2.1; omega), fun z4 => length_sp h hI (length_sp h' hI' ⟨rgO (by omega) (by omega), fun z5 => h0 (fun y => by have := y.2.2.2.2; omega), fun z5 => h1 ⟨z, z2, z3, by omega, by omega⟩⟩)⟩
theorem subBecome_sp {r' : Nat} {Q : Sg → Prop} (h : SbC c r' S) (hr : 4 ≤ r ∧ r < 279) (hd : r ≠ r') (hQ : ∀ c', frC c c' r (r + 1) → SbC c' r S → Q c') : wp_X6_become r r' c Q := by
  have n' : r' ≠ r := fun z => hd z.symm
  rintro s1 rfl s2 rfl s3 rfl s4 rfl s5 rfl
  simp only [gI_sI_ne n', gR_sR_ne n', gR_sI]
  have hf : frC c (sR (sR (sI (sI (sI c r 0 (gI c r' 0)) r 1 (gI c r' 1)) r 2 (gI c r' 2)) r 3 (gR c r' 3)) r 4 (gR c r' 4)) r (r + 1) :=
    (frC.sI (by omega) (by omega)).trans ((frC.sI (by omega) (by omega)).trans ((frC.sI (by omega) (by omega)).trans ((frC.sR (by omega) (by omega)).trans (frC.sR (by omega) (by omega)))))
  refine hQ _ hf ?_
  obtain ⟨⟨g1, g2, g3⟩, ⟨ha, hb⟩, hc⟩ := h
  refine ⟨⟨?_, ?_, ?_⟩, ?_, ?_⟩
  · rw [gI_sR, gI_sR, gI_sI_nj (by omega), gI_sI_nj (by omega), gI_sI_self]; exact g1
  · rw [gI_sR, gI_sR, gI_sI_nj (by omega), gI_sI_self]; exact g2
  · rw [gI_sR, gI_sR, gI_sI_self]; exact g3
  · rw [gR_sR_nj (by omega), gR_sR_self]
    exact ⟨ha, hb.frz ha hf (by omega) (by omega)⟩
  · rw [gR_sR_self]
    exact fun z => ⟨(hc z).1, (hc z).2.frz (hc z).1 hf (by omega) (by omega)⟩
theorem takeIn_sp {r' : Nat} {S' : Sb} {Q : Sg → Prop} (h : SbC c r S) (h' : SbC c r' S') (hr : 4 ≤ r ∧ r < 279) (hd : r ≠ r') (hQ : ∀ c', frC c c' r (r + 1) → SbC c' r (mkS S.b (max S.e S'.e) 2 S.one S'.one) → Q c') : wp_X6_takeIn r r' c Q := by
  have n' : r' ≠ r := fun z => hd z.symm
  obtain ⟨⟨g1, g2, g3⟩, ⟨ha, hb⟩, hc⟩ := h
  obtain ⟨⟨k1, k2, k3⟩, ⟨ka, kb⟩, kc⟩ := h'
  rintro s1 rfl s2 rfl s3 rfl
  rw [gI_sI_ne n', gI_sR, gI_sI_nj (by omega), gI_sR, g2, k2]
  have hf : frC c (sI (sI (sR c r 4 (gR c r' 3)) r 2 2) r 1 (max S.e S'.e)) r (r + 1) :=
    (frC.sR (by omega) (by omega)).trans ((frC.sI (by omega) (by omega)).trans (frC.sI (by omega) (by omega)))
  refine hQ _ hf ⟨⟨?_, ?_, ?_⟩, ?_, ?_⟩
  · rw [gI_sI_nj (by omega), gI_sI_nj (by omega), gI_sR]; exact g1
  · rw [gI_sI_self]; rfl
  · rw [gI_sI_nj (by omega), gI_sI_self]; rfl
  · rw [gR_sI, gR_sI, gR_sR_nj (by omega)]
    exact ⟨ha, hb.frz ha hf (by omega) (by omega)⟩
  · rw [gR_sI, gR_sI, gR_sR_self]
    exact fun z => ⟨ka, kb.frz ka hf (by omega) (by omega)⟩
theorem tHas_sp {x : Int} {Q : Int → Prop} (h : gI c q 2 = n) (h1 : 0 ≤ x ∧ x < n → Q 1) (h0 : ¬ (0 ≤ x ∧ x < n) → Q 0) : wp_X7_has q x c Q :=
  ⟨fun a => h0 (by omega), fun a => ⟨fun b => h0 (by omega), fun b => h1 (by omega)⟩⟩
theorem tAt_sp {x : Int} {Q : Nat → Prop} (h : gI c q 2 = n) (hn : n ≤ 16) (x0 : 0 ≤ x) (x1 : x < n) (hQ : Q (gR c (q + 1) x)) : wp_X7_at q x c Q :=
  tHas_sp h (fun _ => ⟨fun z => by omega, fun _ => ⟨x0, by omega, hQ⟩⟩) (fun z => absurd ⟨x0, x1⟩ z)
/-- the first one from k on whose first frame is greater than x -/
def nxG (f : Int → Int) (x : Int) : Nat → Int → Int
  | 0, _ => -9
  | m + 1, k => if f k ≤ x then nxG f x m (k + 1) else k
def bgS (T : Int → Sb) : Int → Int := fun j => (T j).b
def nxS (n : Int) (T : Int → Sb) (i : Int) : Int := nxG (bgS T) (T i).b (n - (i + 1)).toNat (i + 1)
theorem nxG_rg (f : Int → Int) (x : Int) : ∀ (m : Nat) (k : Int), nxG f x m k = -9 ∨ (k ≤ nxG f x m k ∧ nxG f x m k < k + m ∧ x < f (nxG f x m k)) := by
  intro m
  induction m with
  | zero => intro k; exact Or.inl rfl
  | succ m ih =>
    intro k
    rw [nxG]
    split
    · rcases ih (k + 1) with h | h
      · exact Or.inl h
      · exact Or.inr (by omega)
    · exact Or.inr (by omega)
theorem nxS_rg {i : Int} (i0 : 0 ≤ i) (i1 : i < n) : nxS n T i = -9 ∨ (i < nxS n T i ∧ nxS n T i < n ∧ (T i).b < (T (nxS n T i)).b) := by
  rcases nxG_rg (bgS T) (T i).b (n - (i + 1)).toNat (i + 1) with h | ⟨h1, h2, h3⟩
  · exact Or.inl h
  · exact Or.inr ⟨by unfold nxS; omega, by unfold nxS; omega, h3⟩
theorem next_sp {i : Int} {Q : Int → Prop} (h : TrC c q n T) (hn : n ≤ 16) (i0 : 0 ≤ i) (i1 : i < n) (hQ : Q (nxS n T i)) : wp_X7_next q i c Q := by
  rintro w rfl
  refine ⟨rgO (by omega) (by omega), fun P hP => ?_⟩
  have e := h.1
  refine lq1 (P := P) (fun k => (n - k).toNat) (fun k => i + 1 ≤ k ∧ k ≤ n ∧ nxG (bgS T) (T i).b (n - k).toNat k = nxS n T i) ?_ (i + 1) ⟨by omega, by omega, rfl⟩
  rintro k ⟨k0, k1, hr⟩ ih
  refine hP k (tHas_sp e (fun _ => ⟨fun z => by omega, fun _ => ⟨fun z => ?_, fun z => ⟨by omega, by omega, by omega, by omega, ?_⟩⟩⟩) (fun z => absurd ⟨i0, i1⟩ z))
  · rw [show (n - k).toNat = 0 by omega] at hr
    rw [← hr] at hQ
    exact hQ
  · rw [show (n - k).toNat = (n - (k + 1)).toNat + 1 by omega, nxG] at hr
    rw [(h.2.2 k (by omega) (by omega)).1.1, (h.2.2 i i0 i1).1.1]
    refine ⟨fun y => ?_, fun y => ?_⟩
    · rw [if_pos (show bgS T k ≤ (T i).b from y)] at hr
      exact ⟨rgO (by omega) (by omega), ih (k + 1) ⟨by omega, by omega, hr⟩ (by omega)⟩
    · rw [if_neg (show ¬ bgS T k ≤ (T i).b from y)] at hr
      rw [hr]
      exact hQ
abbrev shS (n : Int) (f : Int → Int) (i : Int) : Prop := (0 < i ∧ f (i - 1) = f i) ∨ (i + 1 < n ∧ f (i + 1) = f i)
theorem shares_sp {i : Int} {Q : Int → Prop} (h : TrC c q n T) (hn : n ≤ 16) (i0 : 0 ≤ i) (i1 : i < n) (h1 : shS n (bgS T) i → Q 1) (h0 : ¬ shS n (bgS T) i → Q 0) : wp_X7_sharesFirst q i c Q := by
  refine tAt_sp h.1 hn i0 i1 ?_
  rintro w rfl
  have late : (¬ (0 < i ∧ bgS T (i - 1) = bgS T i)) → wj_X7_sharesFirst_33 q i (T i).b c Q := fun g => by
    refine ⟨rgO (by omega) (by omega), tHas_sp h.1 (fun a => ⟨fun z => by omega, fun _ => ⟨rgO (by omega) (by omega), tAt_sp h.1 hn a.1 a.2 ?_⟩⟩) (fun a => ⟨fun _ => h0 (fun z => z.elim g (fun z => a ⟨by omega, z.1⟩)), fun z => absurd rfl z⟩)⟩
    rw [(h.2.2 (i + 1) a.1 a.2).1.1]
    exact ⟨fun z => h1 (Or.inr ⟨a.2, z⟩), fun z => h0 (fun y => y.elim g (fun y => z y.2))⟩
  rw [(h.2.2 i i0 i1).1.1]
  refine ⟨rgO (by omega) (by omega), tHas_sp h.1 (fun a => ⟨fun z => by omega, fun _ => ⟨rgO (by omega) (by omega), tAt_sp h.1 hn a.1 a.2 ?_⟩⟩) (fun a => ⟨fun _ => late (fun z => a ⟨by omega, by omega⟩), fun z => absurd rfl z⟩)⟩
  rw [(h.2.2 (i - 1) a.1 a.2).1.1]
  exact ⟨fun z => h1 (Or.inl ⟨by omega, z⟩), fun z => late (fun y => z y.2)⟩
end ROWS
