/-! THE CALLS: what each answers, and what it makes of the whole -/
def Rs : Type := Int × Wd
def Rs.r (R : Rs) : Int := R.1
def Rs.W (R : Rs) : Wd := R.2
def mkR (r : Int) (W : Wd) : Rs := (r, W)
def upF (f : Int → Int) (k x : Int) : Int → Int := fun j => if j = k then x else f j
def setCu (A : St) (n : Int) (F L : Int → Int) : St := mkA n F L A.sn A.f A.v A.tn A.T
def setSh (A : St) (n : Int) (f : Int → Int) : St := mkA A.pn A.F A.L n f A.v A.tn A.T
def setSe (A : St) (v : Int → Int) : St := mkA A.pn A.F A.L A.sn A.f v A.tn A.T
def pieceS (W : Wd) (x y : Int) : Rs :=
  if ¬ (0 ≤ x ∧ x ≤ 9999 ∧ 1 ≤ y ∧ y ≤ 5000 ∧ x + y ≤ 10000) then mkR (-1) W
  else if 10 ≤ W.A.pn ∨ 9999 < frS W.A + y then mkR (-3) W
  else mkR W.A.pn (setA (pushW W) (setCu W.A (W.A.pn + 1) (upF W.A.F W.A.pn x) (upF W.A.L W.A.pn y)))
def dropPieceS (W : Wd) (x : Int) : Rs :=
  if ¬ (0 ≤ x ∧ x < W.A.pn) then mkR (-1) W
  else mkR (smS (delF W.A.L x) (W.A.pn - 1).toNat) (setA (pushW W) (setCu W.A (W.A.pn - 1) (delF W.A.F x) (delF W.A.L x)))
def pieceAtQ (A : St) (p x : Int) : Int := if ¬ (0 ≤ p ∧ p < A.pn) then -1 else if x = 0 then A.F p else if x = 1 then A.L p else if x = 2 then smS A.L p.toNat else -1
def noShot (A : St) (x : Int) : Prop := nrS A.sn A.f x 0 = -9
abbrev noSh (A : St) (x : Int) : Prop := nrS A.sn A.f x 0 = -9
def shotS (W : Wd) (x on : Int) : Rs :=
  if ¬ (1 ≤ x ∧ x ≤ 9998) then mkR (-1) W
  else if on ≠ 0 ∧ noSh W.A x ∧ 20 ≤ W.A.sn then mkR (-3) W
  else if on ≠ 0 ∧ noSh W.A x then mkR (W.A.sn + 1) (setA (pushW W) (setSh W.A (W.A.sn + 1) (insF W.A.f (posS W.A.f x W.A.sn.toNat) x)))
  else if on = 0 ∧ ¬ noSh W.A x then mkR (W.A.sn - 1) (setA (pushW W) (setSh W.A (W.A.sn - 1) (delF W.A.f ((posS W.A.f x W.A.sn.toNat : Int) - 1))))
  else mkR W.A.sn (setA (pushW W) W.A)
def shotAtQ (A : St) (k : Int) : Int := if k < 0 then -1 else if k < A.sn then A.f k else -9
def toNewQ (A : St) (x k : Int) : Int := if ¬ (0 ≤ x ∧ x ≤ 9999 ∧ 0 ≤ k) then -1 else newS A.F A.L x A.pn.toNat 0 k 0
def toOldQ (A : St) (x : Int) : Int := if ¬ (0 ≤ x ∧ x ≤ 9999) then -1 else oldS A.F A.L A.pn.toNat 0 x
def typeS (W : Wd) (x : Int) : Rs :=
  if ¬ (32 ≤ x ∧ x ≤ 126) then mkR (-1) W else if 40 ≤ W.tb then mkR (-3) W
  else mkR (W.tb + 1) (mkW W.A (W.tb + 1) (upF W.B W.tb x) W.hn W.H)
def clearS (W : Wd) : Rs := mkR W.tb (mkW W.A 0 W.B W.hn W.H)
def wbG (n : Int) (B : Int → Int) : Nat → Int → Int
  | 0, _ => -9
  | m + 1, k => if B k = 32 ∧ (k = 0 ∨ k = n - 1 ∨ B (k - 1) = 32) then k else wbG n B m (k + 1)
def wbQ (W : Wd) : Int := wbG W.tb W.B W.tb.toNat 0
abbrev times (b e : Int) : Prop := 0 ≤ b ∧ b < e ∧ e ≤ 9999
def mkP0 (sp ln : Int) (tx : Int → Int) : Pt := (sp, ln, tx)
def addS (W : Wd) (b e sp : Int) : Rs :=
  if ¬ (times b e ∧ 0 ≤ sp ∧ sp ≤ 3) then mkR (-1) W else if 16 ≤ W.A.tn then mkR (-3) W
  else if W.tb = 0 then mkR (-10) W else if wbQ W ≠ -9 then mkR (-10 - wbQ W) W
  else mkR (posS (bgS W.A.T) b W.A.tn.toNat) (setA (pushW W) (setT W.A (W.A.tn + 1) (insF W.A.T (posS (bgS W.A.T) b W.A.tn.toNat) (mkS b e 1 (mkP0 sp W.tb W.B) (mkP0 sp W.tb W.B)))))
def dropS (W : Wd) (i : Int) : Rs := if ¬ (0 ≤ i ∧ i < W.A.tn) then mkR (-1) W else mkR (W.A.tn - 1) (setA (pushW W) (setT W.A (W.A.tn - 1) (delF W.A.T i)))
def moveS (W : Wd) (i b e : Int) : Rs :=
  if ¬ (0 ≤ i ∧ i < W.A.tn ∧ times b e) then mkR (-1) W
  else mkR (posS (bgS (delF W.A.T i)) b (W.A.tn - 1).toNat) (setA (pushW W) (setT W.A W.A.tn (insF (delF W.A.T i) (posS (bgS (delF W.A.T i)) b (W.A.tn - 1).toNat) (mkS b e (W.A.T i).p (W.A.T i).one (W.A.T i).two))))
def subQ (A : St) (i x : Int) : Int :=
  if ¬ (0 ≤ i ∧ i < A.tn) then -1 else if x = 0 then (A.T i).b else if x = 1 then (A.T i).e else if x = 2 then (A.T i).p else if x = 3 then chS (A.T i)
  else if x = 4 then rdS A.v (A.T i) else if x = 5 then ftS A i else if x = 6 then nxS A.tn A.T i else -1
def ptV (p : Pt) (w x : Int) : Int :=
  if x = 0 then p.sp else if x = 1 then p.ln else if x = 2 then (if brS p w = -9 then p.ln else brS p w) else if x = 3 then (if brS p w = -9 then -9 else rkS p (brS p w)) else if x - 10 < p.ln then p.tx (x - 10) else -9
def partQ (A : St) (i p x : Int) : Int :=
  if ¬ (0 ≤ i ∧ i < A.tn ∧ 0 ≤ p ∧ p ≤ 1 ∧ 0 ≤ x ∧ (x ≤ 3 ∨ 10 ≤ x)) then -1 else if (A.T i).p ≤ p then -9 else ptV (if p = 0 then (A.T i).one else (A.T i).two) (A.v 4) x
def setS (W : Wd) (k x : Int) : Rs :=
  if ¬ (0 ≤ k ∧ k < 5 ∧ tabE 6 k.toNat ≤ x ∧ x ≤ tabE 7 k.toNat) then mkR (-1) W else mkR (W.A.v k) (setA (pushW W) (setSe W.A (upF W.A.v k x)))
def conformS (W : Wd) (x : Int) : Rs :=
  if ¬ (1 ≤ x ∧ x ≤ 31) then mkR (-1) W else if fuS W.A x then mkR (-3) W else mkR (r5S W.A x).tn (setA (pushW W) (r5S W.A x))
def icV (A : St) (x k : Int) : Int := if k = 0 then (r5S A x).tn else if k = 1 then smS (lnS (r5S A x).T) (r5S A x).tn.toNat else if k = 2 then fdS (cfS (r5S A x) (-1)) (r5S A x).tn.toNat else if k = 3 then fdS (geS (r5S A x).T) (r5S A x).tn.toNat else loS A x
def icQ (A : St) (x k : Int) : Int := if ¬ (1 ≤ x ∧ x ≤ 31 ∧ 0 ≤ k ∧ k ≤ 4) then -1 else if fuS A x then -3 else icV A x k
def strQ (A : St) (i : Int) : Int := if ¬ (0 ≤ i ∧ i < A.tn) then -1 else (fnS A.pn A.F A.L (A.T i)).m
def shownQ (A : St) (x : Int) : Int := if ¬ (0 ≤ x ∧ x ≤ 9999) then -1 else fdS (shwS A.T x) A.tn.toNat
abbrev isF (x : Int) : Prop := x = 0 ∨ x = 1 ∨ x = 2 ∨ x = 4 ∨ x = 8 ∨ x = 16 ∨ x = 32
def faultsQ (A : St) (x : Int) : Int := if ¬ isF x then -1 else fdS (cfS A (if x = 0 then -1 else x)) A.tn.toNat
def toldQ (W : Wd) (x : Int) : Int :=
  if 0 ≤ x ∧ x ≤ 4 then W.A.v x else if x = 5 then W.A.pn else if x = 6 then frS W.A else if x = 7 then W.A.sn else if x = 8 then W.A.tn else if x = 9 then fdS (cpS W.A.T) W.A.tn.toNat else if x = 10 then W.tb else if x = 11 then W.hn else -1
def undoS (W : Wd) : Rs := if W.hn = 0 then mkR (-2) W else mkR (W.hn - 1) (popW W)
/-- a hash goes on over k values -/
def hsG (g : Int → Int) (h : Int) : Nat → Int
  | 0 => h
  | k + 1 => 31 * hsG g h k + g (k : Int)
theorem hsG_succ (g : Int → Int) (h : Int) {k : Int} (k0 : 0 ≤ k) : hsG g h (k + 1).toNat = 31 * hsG g h k.toNat + g k := by
  rw [show (k + 1).toNat = k.toNat + 1 by omega, hsG, show ((k.toNat : Nat) : Int) = k by omega]
def nsG (g : Int → Int → Int) (h : Int) : Nat → Int
  | 0 => h
  | k + 1 => g (nsG g h k) (k : Int)
theorem nsG_succ (g : Int → Int → Int) (h : Int) {k : Int} (k0 : 0 ≤ k) : nsG g h (k + 1).toNat = g (nsG g h k.toNat) k := by
  rw [show (k + 1).toNat = k.toNat + 1 by omega, nsG, show ((k.toNat : Nat) : Int) = k by omega]
def hpS (A : St) (i : Int) (h p : Int) : Int := hsG (fun b => partQ A i p (10 + b)) (hsG (fun x => partQ A i p x) h 4) (partQ A i p 1).toNat
def hbS (A : St) (h i : Int) : Int := nsG (hpS A i) (31 * hsG (fun x => subQ A i x) h 7 + strQ A i) (subQ A i 2).toNat
def pwS (k : Int) : Int := if k = 0 then 1 else if k = 1 then 2 else if k = 2 then 4 else if k = 3 then 8 else if k = 4 then 16 else 32
def digQ (W : Wd) : Int :=
  hsG (fun k => icQ W.A 31 k) (hsG (fun k => faultsQ W.A (pwS k)) (31 * nsG (hbS W.A) (hsG (fun k => shotAtQ W.A k) (nsG (fun h p => hsG (fun x => pieceAtQ W.A p x) h 3) (hsG (fun k => toldQ W k) 18771 12) W.A.pn.toNat) W.A.sn.toNat) W.A.tn.toNat + faultsQ W.A 0) 6) 5
/-! all keeps the limits -/
theorem smS_up {L : Int → Int} {n : Int} {y : Int} (n0 : 0 ≤ n) : smS (upF L n y) (n + 1).toNat = smS L n.toNat + y := by
  rw [smS_succ _ n0, smS_congr (n := n.toNat) (L := upF L n y) (L' := L) (fun p p0 p1 => by unfold upF; rw [if_neg (by omega)]) n.toNat (Nat.le_refl _)]
  unfold upF
  rw [if_pos rfl]
theorem InvCu.app {n x y : Int} {F L : Int → Int} (h : InvCu n F L) (hn : n < 10) (x0 : 0 ≤ x) (y0 : 1 ≤ y) (y1 : y ≤ 5000) (xy : x + y ≤ 10000) (hs : smS L n.toNat + y ≤ 9999) : InvCu (n + 1) (upF F n x) (upF L n y) := by
  obtain ⟨h0, h1, h2, h3⟩ := h
  refine ⟨by omega, by omega, fun p p0 p1 => ?_, by rw [smS_up h0]; exact hs⟩
  unfold upF
  by_cases e : p = n
  · rw [if_pos e, if_pos e]; omega
  · rw [if_neg e, if_neg e]; exact h2 p p0 (by omega)
theorem smS_del {L : Int → Int} {x : Int} (x0 : 0 ≤ x) : ∀ k : Nat, smS (delF L x) k = if (k : Int) ≤ x then smS L k else smS L (k + 1) - L x := by
  intro k
  induction k with
  | zero => rw [if_pos (by omega)]; rfl
  | succ k ih =>
    show smS (delF L x) k + delF L x (k : Int) = _
    rw [ih]
    have e1 : smS L (k + 1) = smS L k + L (k : Int) := rfl
    have e2 : smS L (k + 1 + 1) = smS L (k + 1) + L ((k + 1 : Nat) : Int) := rfl
    unfold delF
    by_cases a : (k : Int) < x
    · rw [if_pos (by omega), if_pos a]
      by_cases b : ((k + 1 : Nat) : Int) ≤ x
      · rw [if_pos b, e1]
      · rw [if_neg b, e2, show x = ((k + 1 : Nat) : Int) by omega]; omega
    · rw [if_neg a, if_neg (by omega : ¬ ((k + 1 : Nat) : Int) ≤ x), show ((k : Int) + 1) = ((k + 1 : Nat) : Int) by omega]
      by_cases b : (k : Int) ≤ x
      · rw [if_pos b, e2, e1, show x = (k : Int) by omega]; omega
      · rw [if_neg b, e2]; omega
theorem InvCu.del {n x : Int} {F L : Int → Int} (h : InvCu n F L) (x0 : 0 ≤ x) (x1 : x < n) : InvCu (n - 1) (delF F x) (delF L x) := by
  obtain ⟨h0, h1, h2, h3⟩ := h
  refine ⟨by omega, by omega, fun p p0 p1 => ?_, ?_⟩
  · unfold delF
    by_cases e : p < x
    · rw [if_pos e, if_pos e]; exact h2 p p0 (by omega)
    · rw [if_neg e, if_neg e]; exact h2 (p + 1) (by omega) (by omega)
  · rw [smS_del x0]
    have hx := h2 x x0 x1
    have e1 := smS_succ L (k := n - 1) (by omega)
    rw [show n - 1 + 1 = n by omega] at e1
    have hl := h2 (n - 1) (by omega) (by omega)
    split
    · omega
    · rw [show (n - 1).toNat + 1 = n.toNat by omega]; omega
theorem InvSh.ins {n x : Int} {f : Int → Int} (h : InvSh n f) (hn : n < 20) (x0 : 1 ≤ x) (x1 : x ≤ 9998) (hx : ¬ ∃ j, 0 ≤ j ∧ j < n ∧ f j = x) : InvSh (n + 1) (insF f (posS f x n.toNat) x) := by
  obtain ⟨h0, h1, h2, h3⟩ := h
  have hl := posS_le f x n.toNat
  have hhi := posS_hi f x n.toNat
  have hlo := posS_lo f x n.toNat
  generalize posS f x n.toNat = w at *
  have key : ∀ j, insF f w x j = if j < (w : Int) then f j else if j = (w : Int) then x else f (j - 1) := fun j => rfl
  have lo : ∀ i, 0 ≤ i → i < (w : Int) → f i < x := fun i i0 i1 => by
    have e1 : f i ≤ f ((w : Int) - 1) := by
      by_cases e : i = (w : Int) - 1
      · rw [e]; exact Int.le_refl _
      · have := h3 i ((w : Int) - 1) i0 (by omega) (by omega); omega
    have e2 : f ((w : Int) - 1) ≤ x := hlo (by omega)
    have e3 : f i ≠ x := fun z => hx ⟨i, i0, by omega, z⟩
    omega
  refine ⟨by omega, by omega, fun j j0 j1 => ?_, fun i j i0 ij j1 => ?_⟩
  · rw [key]
    split
    · exact h2 j j0 (by omega)
    · split
      · omega
      · exact h2 (j - 1) (by omega) (by omega)
  · rw [key, key]
    by_cases a1 : i < (w : Int)
    · rw [if_pos a1]
      by_cases b1 : j < (w : Int)
      · rw [if_pos b1]; exact h3 i j i0 ij (by omega)
      · rw [if_neg b1]
        have := lo i i0 a1
        by_cases b2 : j = (w : Int)
        · rw [if_pos b2]; exact this
        · rw [if_neg b2]
          exact h3 i (j - 1) i0 (by omega) (by omega)
    · rw [if_neg a1]
      by_cases a2 : i = (w : Int)
      · rw [if_pos a2, if_neg (by omega), if_neg (by omega)]
        exact hhi (j - 1) (by omega) (by omega)
      · rw [if_neg a2, if_neg (by omega), if_neg (by omega)]
        exact h3 (i - 1) (j - 1) (by omega) (by omega) (by omega)
theorem InvSh.del {n x : Int} {f : Int → Int} (h : InvSh n f) (x0 : 0 ≤ x) (x1 : x < n) : InvSh (n - 1) (delF f x) := by
  obtain ⟨h0, h1, h2, h3⟩ := h
  have key : ∀ j, delF f x j = if j < x then f j else f (j + 1) := fun j => rfl
  refine ⟨by omega, by omega, fun j j0 j1 => ?_, fun i j i0 ij j1 => ?_⟩
  · rw [key]
    split
    · exact h2 j j0 (by omega)
    · exact h2 (j + 1) (by omega) (by omega)
  · rw [key, key]
    by_cases a1 : i < x
    · rw [if_pos a1]
      split
      · exact h3 i j i0 ij (by omega)
      · exact h3 i (j + 1) i0 (by omega) (by omega)
    · rw [if_neg a1, if_neg (by omega)]
      exact h3 (i + 1) (j + 1) (by omega) (by omega) (by omega)
/-- where a shot change is -/
theorem posS_eq {n x : Int} {f : Int → Int} (h : InvSh n f) (hx : ∃ j, 0 ≤ j ∧ j < n ∧ f j = x) : 1 ≤ posS f x n.toNat ∧ posS f x n.toNat ≤ n.toNat ∧ f ((posS f x n.toNat : Int) - 1) = x := by
  obtain ⟨j, j0, j1, e⟩ := hx
  have hl := posS_le f x n.toNat
  have hj : ¬ (posS f x n.toNat : Int) ≤ j := fun z => by
    have := posS_hi f x n.toNat j z (by omega)
    omega
  refine ⟨by omega, hl, ?_⟩
  have e2 := posS_lo f x n.toNat (by omega)
  by_cases ej : j = (posS f x n.toNat : Int) - 1
  · rw [← ej]; exact e
  · have := h.2.2.2 j ((posS f x n.toNat : Int) - 1) j0 (by omega) (by omega)
    omega
theorem InvSe.up {v : Int → Int} (h : InvSe v) {k x : Int} (h1 : tabE 6 k.toNat ≤ x) (h2 : x ≤ tabE 7 k.toNat) : InvSe (upF v k x) := fun j j0 j1 => by
  unfold upF
  by_cases e : j = k
  · rw [if_pos e, e]; exact ⟨h1, h2⟩
  · rw [if_neg e]; exact h j j0 j1
theorem wbG_rg (n : Int) (B : Int → Int) : ∀ (m : Nat) (k : Int), wbG n B m k = -9 ∨ (k ≤ wbG n B m k ∧ wbG n B m k < k + m) := by
  intro m
  induction m with
  | zero => intro k; exact Or.inl rfl
  | succ m ih =>
    intro k
    rw [wbG]
    split
    · exact Or.inr ⟨Int.le_refl _, by omega⟩
    · rcases ih (k + 1) with h | h
      · exact Or.inl h
      · exact Or.inr (by omega)
theorem wbG_first {n : Int} {B : Int → Int} {m : Nat} (hm : 0 < m) (h : wbG n B m 0 = -9) : B 0 ≠ 32 := by
  rw [show m = (m - 1) + 1 by omega, wbG] at h
  split at h
  · omega
  · rename_i hc
    exact fun z => hc ⟨z, Or.inl rfl⟩
theorem inv_piece {W : Wd} (h : InvW W) (x y : Int) : InvW (pieceS W x y).W := by
  unfold pieceS
  split
  · exact h
  · split
    · exact h
    · rename_i h1 h2
      have e : frS W.A = smS W.A.L W.A.pn.toNat := rfl
      exact h.push.setA ⟨h.1.1.app (by omega) (by omega) (by omega) (by omega) (by omega) (by omega), h.1.2⟩
theorem inv_dropPiece {W : Wd} (h : InvW W) (x : Int) : InvW (dropPieceS W x).W := by
  unfold dropPieceS
  split
  · exact h
  · rename_i h1
    exact h.push.setA ⟨h.1.1.del (by omega) (by omega), h.1.2⟩
theorem inv_shot {W : Wd} (h : InvW W) (x on : Int) : InvW (shotS W x on).W := by
  unfold shotS
  have hn := nrS_none h.1.2.1 x
  split
  · exact h
  · rename_i h1
    split
    · exact h
    · rename_i h2
      split
      · rename_i h3
        exact h.push.setA ⟨h.1.1, h.1.2.1.ins (Int.not_le.mp (fun z => h2 ⟨h3.1, h3.2, z⟩)) (by omega) (by omega) (hn.mp h3.2), h.1.2.2⟩
      · split
        · rename_i h4
          have g := posS_eq h.1.2.1 (Classical.byContradiction fun z => h4.2 (hn.mpr z))
          have n0 := h.1.2.1.1
          exact h.push.setA ⟨h.1.1, h.1.2.1.del (by omega) (by omega), h.1.2.2⟩
        · exact h.push.setA h.1
theorem inv_type {W : Wd} (h : InvW W) (x : Int) : InvW (typeS W x).W := by
  unfold typeS
  split
  · exact h
  · split
    · exact h
    · rename_i h1 h2
      obtain ⟨g1, ⟨g2, g3, g4⟩, g5⟩ := h
      refine ⟨g1, ⟨by show 0 ≤ W.tb + 1; omega, by show W.tb + 1 ≤ 40; omega, fun j j0 j1 => ?_⟩, g5⟩
      have j1 : j < W.tb + 1 := j1
      show 32 ≤ upF W.B W.tb x j ∧ upF W.B W.tb x j ≤ 126
      unfold upF
      split
      · omega
      · exact g4 j j0 (by omega)
theorem inv_clear {W : Wd} (h : InvW W) : InvW (clearS W).W := ⟨h.1, ⟨Int.le_refl _, by show (0 : Int) ≤ 40; omega, fun j j0 j1 => by have j1 : j < 0 := j1; omega⟩, h.2.2⟩
theorem inv_add {W : Wd} (h : InvW W) (b e sp : Int) : InvW (addS W b e sp).W := by
  unfold addS
  split
  · exact h
  · split
    · exact h
    · split
      · exact h
      · split
        · exact h
        · rename_i h1 h2 h3 h4
          have h1 : times b e ∧ 0 ≤ sp ∧ sp ≤ 3 := Classical.not_not.mp h1
          have hw : wbQ W = -9 := Classical.not_not.mp h4
          obtain ⟨g2, g3, g4⟩ := h.2.1
          have hp : InvPt (mkP0 sp W.tb W.B) := ⟨h1.2.1, h1.2.2, by show 1 ≤ W.tb; omega, g3, g4, wbG_first (by omega) hw⟩
          have hS : InvSb (mkS b e 1 (mkP0 sp W.tb W.B) (mkP0 sp W.tb W.B)) := ⟨h1.1.1, h1.1.2.1, h1.1.2.2, Or.inl rfl, hp, fun _ => hp⟩
          exact h.push.setA (h.1.setT (h.1.2.2.2.ins (by omega) hS))
theorem inv_drop {W : Wd} (h : InvW W) (i : Int) : InvW (dropS W i).W := by
  unfold dropS
  split
  · exact h
  · rename_i h1
    exact h.push.setA (h.1.setT (h.1.2.2.2.del (by omega) (by omega)))
theorem inv_move {W : Wd} (h : InvW W) (i b e : Int) : InvW (moveS W i b e).W := by
  unfold moveS
  split
  · exact h
  · rename_i h1
    have h1 : 0 ≤ i ∧ i < W.A.tn ∧ times b e := Classical.not_not.mp h1
    have hi := h.1.2.2.2.2.2.1 i h1.1 h1.2.1
    have hn := h.1.2.2.2.2.1
    have hS : InvSb (mkS b e (W.A.T i).p (W.A.T i).one (W.A.T i).two) := ⟨h1.2.2.1, h1.2.2.2.1, h1.2.2.2.2, hi.2.2.2.1, hi.2.2.2.2.1, hi.2.2.2.2.2⟩
    have g := (h.1.2.2.2.del h1.1 h1.2.1).ins (by omega) hS
    rw [show W.A.tn - 1 + 1 = W.A.tn by omega] at g
    exact h.push.setA (h.1.setT g)
theorem inv_set {W : Wd} (h : InvW W) (k x : Int) : InvW (setS W k x).W := by
  unfold setS
  split
  · exact h
  · rename_i h1
    have h1 := Classical.not_not.mp h1
    exact h.push.setA ⟨h.1.1, h.1.2.1, h.1.2.2.1.up h1.2.2.1 h1.2.2.2, h.1.2.2.2⟩
theorem inv_conform {W : Wd} (h : InvW W) (x : Int) : InvW (conformS W x).W := by
  unfold conformS
  split
  · exact h
  · split
    · exact h
    · rename_i h1 h2
      exact h.push.setA (r5S_inv h.1 h2)
theorem inv_undo {W : Wd} (h : InvW W) : InvW (undoS W).W := by
  unfold undoS
  split
  · exact h
  · rename_i h1
    have := h.2.2.1
    exact h.pop (by omega)
