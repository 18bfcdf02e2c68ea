/-! pieces, shot changes, settings of the class -/
def newS (F L : Int → Int) (x : Int) : Nat → Int → Int → Int → Int
  | 0, _, _, _ => -9
  | m + 1, p, l, u => if 0 ≤ x - F p ∧ x - F p < L p then (if l = 0 then u + (x - F p) else newS F L x m (p + 1) (l - 1) (u + L p)) else newS F L x m (p + 1) l (u + L p)
def oldS (F L : Int → Int) : Nat → Int → Int → Int
  | 0, _, _ => -9
  | m + 1, p, u => if u < L p then F p + u else oldS F L m (p + 1) (u - L p)
/-- a row without its place p; with x at place p -/
def delF {α : Type} (f : Int → α) (p : Int) : Int → α := fun j => if j < p then f j else f (j + 1)
def insF {α : Type} (f : Int → α) (p : Int) (x : α) : Int → α := fun j => if j < p then f j else if j = p then x else f (j - 1)
/-- behind the last of the first n that isn't greater -/
def posS (f : Int → Int) (x : Int) : Nat → Nat
  | 0 => 0
  | k + 1 => if x < f (k : Int) then posS f x k else k + 1
theorem posS_le (f : Int → Int) (x : Int) (n : Nat) : posS f x n ≤ n := by
  induction n with
  | zero => exact Nat.le_refl 0
  | succ n ih =>
    unfold posS
    split <;> omega
theorem posS_hi (f : Int → Int) (x : Int) (n : Nat) : ∀ j : Int, (posS f x n : Int) ≤ j → j < n → x < f j := by
  induction n with
  | zero => intro j h1 h2; unfold posS at h1; omega
  | succ n ih =>
    intro j h1 h2
    unfold posS at h1
    split at h1
    · by_cases e : j = n
      · rw [e]; assumption
      · exact ih j h1 (by omega)
    · omega
theorem posS_lo (f : Int → Int) (x : Int) (n : Nat) (h : 0 < posS f x n) : f ((posS f x n : Int) - 1) ≤ x := by
  induction n with
  | zero => unfold posS at h; omega
  | succ n ih =>
    unfold posS at h ⊢
    split
    · rename_i hc
      rw [if_pos hc] at h
      exact ih h
    · rename_i hc
      rw [show ((n + 1 : Nat) : Int) - 1 = (n : Int) by omega]
      omega
theorem posS_congr {f g : Int → Int} {x : Int} {n : Nat} (h : ∀ j : Int, 0 ≤ j → j < n → f j = g j) : posS f x n = posS g x n := by
  induction n with
  | zero => rfl
  | succ n ih =>
    unfold posS
    rw [h (n : Int) (by omega) (by omega), ih (fun j h0 h1 => h j h0 (by omega))]
section CUTS2
variable {c m : Sg} {q : Nat} {n : Int} {F L : Int → Int}
theorem newFrame_sp {x k : Int} {Q : Int → Prop} (h : CuC c q n F L) (hI : InvCu n F L) (x0 : 0 ≤ x) (x1 : x ≤ 9999) (k0 : 0 ≤ k) (k1 : k ≤ 2147483647) (hQ : Q (newS F L x n.toNat 0 k 0)) : wp_X0_newFrame q x k c Q := by
  intro P hP
  have e := h.1
  have b := hI.2.1
  refine lq3 (P := P) (fun _ _ p => (n - p).toNat) (fun l u p => 0 ≤ p ∧ p ≤ n ∧ u = smS L p.toNat ∧ 0 ≤ l ∧ l ≤ k ∧ newS F L x (n - p).toNat p l u = newS F L x n.toNat 0 k 0) ?_ k 0 0 ⟨by omega, hI.1, rfl, k0, by omega, by rw [Int.sub_zero]⟩
  rintro l u p ⟨p0, p1, rfl, l0, l1, hr⟩ ih
  refine hP l _ p ⟨fun z => ?_, fun z => ?_⟩
  · rw [show (n - p).toNat = 0 by omega] at hr
    rw [← hr] at hQ
    exact hQ
  · have hp := hI.2.2.1 p p0 (by omega)
    obtain ⟨f1, f2⟩ := h.2 p p0 (by omega)
    rw [show (n - p).toNat = (n - (p + 1)).toNat + 1 by omega, newS] at hr
    have s1 := hI.sm (k := p) p0 (by omega)
    have s2 := hI.sm (k := p + 1) (by omega) (by omega)
    have ek : smS L (p + 1).toNat = smS L p.toNat + L p := by
      rw [show (p + 1).toNat = p.toNat + 1 by omega]
      show smS L p.toNat + L (p.toNat : Int) = _
      rw [show ((p.toNat : Nat) : Int) = p by omega]
    have J : ∀ l', 0 ≤ l' → l' ≤ k → newS F L x (n - (p + 1)).toNat (p + 1) l' (smS L p.toNat + L p) = newS F L x n.toNat 0 k 0 → wj_X0_newFrame_58 P q x l' (smS L p.toNat) p c Q := fun l' a1 a2 a3 => by
      refine ⟨p0, by omega, ?_⟩
      rintro w rfl
      rw [f2]
      exact ⟨rgO (by omega) (by omega), rgO (by omega) (by omega), ih l' _ (p + 1) ⟨by omega, by omega, ek.symm, a1, a2, a3⟩ (by omega)⟩
    refine ⟨p0, by omega, ?_⟩
    rintro w rfl
    rw [f1, f2]
    refine ⟨rgO (by omega) (by omega), fun y => ?_, fun y => ⟨p0, by omega, fun y2 => ?_, fun y2 => ⟨fun y3 => ?_, fun y3 => ?_⟩⟩⟩
    · rw [if_neg (by omega)] at hr
      exact J l l0 l1 hr
    · rw [if_neg (by omega)] at hr
      exact J l l0 l1 hr
    · rw [if_pos (by omega), if_pos y3] at hr
      rw [hr]
      exact ⟨rgO (by rw [← hr]; omega) (by rw [← hr]; omega), hQ⟩
    · rw [if_pos (by omega), if_neg y3] at hr
      exact ⟨rgO (by omega) (by omega), J (l + (-1)) (by omega) (by omega) (by rw [show l + (-1) = l - 1 by omega]; exact hr)⟩
theorem oldFrame_sp {x : Int} {Q : Int → Prop} (h : CuC c q n F L) (hI : InvCu n F L) (x0 : 0 ≤ x) (x1 : x ≤ 9999) (hQ : Q (oldS F L n.toNat 0 x)) : wp_X0_oldFrame q x c Q := by
  intro P hP
  have e := h.1
  have b := hI.2.1
  refine lq2 (P := P) (fun _ p => (n - p).toNat) (fun u p => 0 ≤ p ∧ p ≤ n ∧ 0 ≤ u ∧ u ≤ 9999 ∧ oldS F L (n - p).toNat p u = oldS F L n.toNat 0 x) ?_ x 0 ⟨by omega, hI.1, x0, x1, by rw [Int.sub_zero]⟩
  rintro u p ⟨p0, p1, u0, u1, hr⟩ ih
  refine hP u p ⟨fun z => ?_, fun z => ⟨p0, by omega, fun y => ⟨p0, by omega, ?_⟩, fun y => ⟨p0, by omega, ?_⟩⟩⟩
  · rw [show (n - p).toNat = 0 by omega] at hr
    rw [← hr] at hQ
    exact hQ
  · have hp := hI.2.2.1 p p0 (by omega)
    obtain ⟨f1, f2⟩ := h.2 p p0 (by omega)
    rw [show (n - p).toNat = (n - (p + 1)).toNat + 1 by omega, oldS] at hr
    rintro w rfl
    rw [f2] at y ⊢
    rw [if_neg (by omega)] at hr
    exact ⟨rgO (by omega) (by omega), rgO (by omega) (by omega), ih _ (p + 1) ⟨by omega, by omega, by omega, by omega, hr⟩ (by omega)⟩
  · have hp := hI.2.2.1 p p0 (by omega)
    obtain ⟨f1, f2⟩ := h.2 p p0 (by omega)
    rw [show (n - p).toNat = (n - (p + 1)).toNat + 1 by omega, oldS] at hr
    rw [f2] at y
    rw [f1]
    rw [if_pos (by omega)] at hr
    rw [hr]
    exact ⟨rgO (by rw [← hr]; omega) (by rw [← hr]; omega), hQ⟩
theorem append_sp {x y : Int} {Q : Sg → Prop} (h : CuC c q n F L) (n0 : 0 ≤ n) (n1 : n < 10) (hQ : ∀ c', frC c c' q (q + 3) → CuC c' q (n + 1) (fun p => if p = n then x else F p) (fun p => if p = n then y else L p) → Q c') : wp_X0_append q x y c Q := by
  have e := h.1
  refine ⟨fun _ => ⟨by omega, by omega, ?_⟩, fun z => by omega⟩
  rintro s1 rfl
  have e1 : gI (sI c (q + 1) (gI c q 2) x) q 2 = n := by rw [gI_sI_ne (by omega)]; exact e
  refine ⟨by omega, by omega, ?_⟩
  rintro s2 rfl
  have e2 : gI (sI (sI c (q + 1) (gI c q 2) x) (q + 2) (gI (sI c (q + 1) (gI c q 2) x) q 2) y) q 2 = n := by rw [gI_sI_ne (by omega)]; exact e1
  refine ⟨rgO (by omega) (by omega), ?_⟩
  rintro s3 rfl
  rw [e2, e1, e]
  refine hQ _ ((frC.sI (by omega) (by omega)).trans ((frC.sI (by omega) (by omega)).trans (frC.sI (by omega) (by omega)))) ⟨gI_sI_self _ _ _ _, fun p p0 p1 => ⟨?_, ?_⟩⟩
  · dsimp only
    rw [gI_sI_ne (by omega : q + 1 ≠ q), gI_sI_ne (by omega : q + 1 ≠ q + 2)]
    by_cases ep : p = n
    · rw [if_pos ep, ep, gI_sI_self]
    · rw [if_neg ep, gI_sI_nj ep]
      exact (h.2 p p0 (by omega)).1
  · dsimp only
    rw [gI_sI_ne (by omega : q + 2 ≠ q)]
    by_cases ep : p = n
    · rw [if_pos ep, ep, gI_sI_self]
    · rw [if_neg ep, gI_sI_nj ep, gI_sI_ne (by omega : q + 2 ≠ q + 1)]
      exact (h.2 p p0 (by omega)).2
theorem cutBecome_sp {r : Nat} {Q : Sg → Prop} (h : CuC c r n F L) (hn : n ≤ 10) (hd : q + 3 ≤ r ∨ r + 3 ≤ q) (hQ : ∀ c', frC c c' q (q + 3) → CuC c' q n F L → Q c') : wp_X0_become q r c Q := by
  rintro s1 rfl
  refine ⟨by omega, by omega, by omega, by omega, by omega, ?_⟩
  rintro s2 rfl
  refine ⟨by omega, by omega, by omega, by omega, by omega, ?_⟩
  rintro s3 rfl
  refine hQ _ ((frC.sI (by omega) (by omega)).trans ((frC.sC (by omega) (by omega)).trans (frC.sC (by omega) (by omega)))) ⟨?_, fun p p0 p1 => ?_⟩
  · rw [gI_sC_ne (by omega), gI_sC_ne (by omega), gI_sI_self]
    exact h.1
  · rw [gI_sC_ne (by omega), gI_sC, if_pos ⟨rfl, by omega, by omega⟩, gI_sI_ne (by omega), gI_sC, if_pos ⟨rfl, by omega, by omega⟩, gI_sC_ne (by omega), gI_sI_ne (by omega)]
    rw [show (0 : Int) + (p - 0) = p by omega]
    exact h.2 p p0 p1
end CUTS2
/-! SHOT CHANGES -/
def InvSh (n : Int) (f : Int → Int) : Prop := 0 ≤ n ∧ n ≤ 20 ∧ (∀ k, 0 ≤ k → k < n → 1 ≤ f k ∧ f k ≤ 9998) ∧ ∀ i j, 0 ≤ i → i < j → j < n → f i < f j
def ShC (c : Sg) (q : Nat) (n : Int) (f : Int → Int) : Prop := gI c q 1 = n ∧ ∀ k, 0 ≤ k → k < n → gI c (q + 1) k = f k
theorem ShC.kept {c c' : Sg} {q : Nat} {n : Int} {f : Int → Int} (h : ShC c q n f) {lo hi : Nat} (hf : frC c c' lo hi) (hd : hi ≤ q ∨ q + 2 ≤ lo) : ShC c' q n f := by
  obtain ⟨h1, h2⟩ := h
  refine ⟨((hf.1 q (by omega)).1 1).trans h1, fun p p0 p1 => ?_⟩
  rw [(hf.1 (q + 1) (by omega)).1 p]
  exact h2 p p0 p1
/-- the nearest one; best so far, least distance so far -/
def nrG (f : Int → Int) (x : Int) : Nat → Int → Int → Int → Int
  | 0, _, b, _ => b
  | m + 1, k, b, l => if jAbs (f k - x) < l then nrG f x m (k + 1) (f k) (jAbs (f k - x)) else nrG f x m (k + 1) b l
def nrS (n : Int) (f : Int → Int) (x r : Int) : Int := nrG f x n.toNat 0 (-9) (r + 1)
theorem nrG_none {f : Int → Int} {x : Int} : ∀ (m : Nat) (k : Int), (∀ j, k ≤ j → j < k + m → 1 ≤ f j) → (nrG f x m k (-9) 1 = -9 ↔ ¬ ∃ j, k ≤ j ∧ j < k + m ∧ f j = x) := by
  intro m
  induction m with
  | zero => intro k _; exact ⟨fun _ ⟨j, a, b, _⟩ => by omega, fun _ => rfl⟩
  | succ m ih =>
    intro k hk
    rw [nrG]
    have pos : ∀ (m : Nat) (k b l : Int), 1 ≤ b → (∀ j, k ≤ j → j < k + m → 1 ≤ f j) → 1 ≤ nrG f x m k b l := by
      intro m
      induction m with
      | zero => intro k b l hb _; exact hb
      | succ m ih2 =>
        intro k b l hb hk
        rw [nrG]
        split
        · exact ih2 (k + 1) _ _ (hk k (by omega) (by omega)) (fun j a b => hk j (by omega) (by omega))
        · exact ih2 (k + 1) _ _ hb (fun j a b => hk j (by omega) (by omega))
    split
    · rename_i hc
      have h0 := hk k (by omega) (by omega)
      have hx : f k = x := by
        unfold jAbs at hc
        split at hc <;> omega
      have := pos m (k + 1) (f k) (jAbs (f k - x)) h0 (fun j a b => hk j (by omega) (by omega))
      exact ⟨fun z => by omega, fun z => absurd ⟨k, by omega, by omega, hx⟩ z⟩
    · rename_i hc
      have hx : f k ≠ x := fun z => hc (by rw [z, Int.sub_self]; decide)
      rw [ih (k + 1) (fun j a b => hk j (by omega) (by omega))]
      refine ⟨fun z ⟨j, a, b, e⟩ => ?_, fun z ⟨j, a, b, e⟩ => z ⟨j, by omega, by omega, e⟩⟩
      by_cases ej : j = k
      · exact hx (ej ▸ e)
      · exact z ⟨j, by omega, by omega, e⟩
theorem nrS_none {n : Int} {f : Int → Int} (h : InvSh n f) (x : Int) : nrS n f x 0 = -9 ↔ ¬ ∃ j, 0 ≤ j ∧ j < n ∧ f j = x := by
  unfold nrS
  have h0 := h.1
  rw [show (0 : Int) + 1 = 1 by omega, nrG_none n.toNat 0 (fun j a b => (h.2.2.1 j a (by omega)).1)]
  refine ⟨fun z ⟨j, a, b, e⟩ => z ⟨j, a, by omega, e⟩, fun z ⟨j, a, b, e⟩ => z ⟨j, a, by omega, e⟩⟩
theorem nrG_cases (f : Int → Int) (x : Int) : ∀ (m : Nat) (k b l : Int), nrG f x m k b l = b ∨ ∃ j, k ≤ j ∧ j < k + m ∧ nrG f x m k b l = f j := by
  intro m
  induction m with
  | zero => intro k b l; exact Or.inl rfl
  | succ m ih =>
    intro k b l
    rw [nrG]
    split
    · rcases ih (k + 1) (f k) (jAbs (f k - x)) with h | ⟨j, a, b2, h⟩
      · exact Or.inr ⟨k, by omega, by omega, h⟩
      · exact Or.inr ⟨j, by omega, by omega, h⟩
    · rcases ih (k + 1) b l with h | ⟨j, a, b2, h⟩
      · exact Or.inl h
      · exact Or.inr ⟨j, by omega, by omega, h⟩
theorem nrS_rg {n : Int} {f : Int → Int} (h : InvSh n f) (x r : Int) : nrS n f x r = -9 ∨ (1 ≤ nrS n f x r ∧ nrS n f x r ≤ 9998) := by
  have h0 := h.1
  rcases nrG_cases f x n.toNat 0 (-9) (r + 1) with e | ⟨j, a, b, e⟩
  · exact Or.inl e
  · refine Or.inr ?_
    unfold nrS
    rw [e]
    exact h.2.2.1 j a (by omega)
section SHOTS
variable {c m : Sg} {q : Nat} {n : Int} {f : Int → Int}
theorem nearest_sp {x r : Int} {Q : Int → Prop} (h : ShC c q n f) (hI : InvSh n f) (x0 : 0 ≤ x) (x1 : x ≤ 10000) (r0 : 0 ≤ r) (r1 : r ≤ 50) (hQ : Q (nrS n f x r)) : wp_X4_nearest q x r c Q := by
  rintro w rfl
  refine ⟨rgO (by omega) (by omega), fun P hP => ?_⟩
  have e := h.1
  have b := hI.2.1
  refine lq3 (P := P) (fun _ _ k => (n - k).toNat) (fun b l k => 0 ≤ k ∧ k ≤ n ∧ rgI b ∧ 0 ≤ l ∧ l ≤ 20000 ∧ nrG f x (n - k).toNat k b l = nrS n f x r) ?_ (-9) (r + 1) 0 ⟨by omega, hI.1, rgO (by omega) (by omega), by omega, by omega, by rw [Int.sub_zero]; rfl⟩
  rintro b l k ⟨k0, k1, b0, l0, l1, hr⟩ ih
  refine hP b l k ⟨fun z => ?_, fun z => ⟨k0, by omega, ?_⟩⟩
  · rw [show (n - k).toNat = 0 by omega] at hr
    rw [← hr] at hQ
    exact hQ
  · have hk := hI.2.2.1 k k0 (by omega)
    rw [show (n - k).toNat = (n - (k + 1)).toNat + 1 by omega, nrG] at hr
    rw [h.2 k k0 (by omega)]
    refine ⟨rgO (by omega) (by omega), ?_⟩
    rintro w rfl
    have ha : 0 ≤ jAbs (f k - x) ∧ jAbs (f k - x) ≤ 20000 := by unfold jAbs; split <;> omega
    refine ⟨rgO (by omega) (by omega), fun y => ?_, fun y => ⟨k0, by omega, ?_⟩⟩
    · rw [if_neg (by omega)] at hr
      exact ⟨rgO (by omega) (by omega), ih b l (k + 1) ⟨by omega, by omega, b0, l0, l1, hr⟩ (by omega)⟩
    · rintro w rfl
      rw [if_pos (by omega)] at hr
      exact ⟨rgO (by omega) (by omega), ih _ _ (k + 1) ⟨by omega, by omega, rgO (by omega) (by omega), by omega, by omega, hr⟩ (by omega)⟩
theorem shotsHas_sp {x : Int} {Q : Int → Prop} (h : ShC c q n f) (hI : InvSh n f) (x0 : 0 ≤ x) (x1 : x ≤ 10000) (h1 : (∃ j, 0 ≤ j ∧ j < n ∧ f j = x) → Q 1) (h0 : (¬ ∃ j, 0 ≤ j ∧ j < n ∧ f j = x) → Q 0) : wp_X4_has q x c Q :=
  nearest_sp h hI x0 x1 (by omega) (by omega) ⟨fun z => h0 ((nrS_none hI x).mp z), fun z => h1 (Classical.byContradiction fun y => z ((nrS_none hI x).mpr y))⟩
theorem isMissed_sp {x r : Int} {Q : Int → Prop} (h : ShC c q n f) (hI : InvSh n f) (x0 : 0 ≤ x) (x1 : x ≤ 10000) (r0 : 0 ≤ r) (r1 : r ≤ 50) (hQ : Q (if nrS n f x r = -9 ∨ nrS n f x r = x then 0 else 1)) : wp_X4_isMissed q x r c Q := by
  refine nearest_sp h hI x0 x1 r0 r1 ⟨fun z => ?_, fun z => ⟨fun y => ?_, fun y => ?_⟩⟩
  · rw [if_pos (Or.inl z)] at hQ; exact hQ
  · rw [if_pos (Or.inr y)] at hQ; exact hQ
  · rw [if_neg (fun w => w.elim z y)] at hQ; exact hQ
theorem shotsAt_sp {x : Int} {Q : Int → Prop} (h : ShC c q n f) (hn : n ≤ 20) (hQ : Q (if 0 ≤ x ∧ x < n then f x else -9)) : wp_X4_at q x c Q := by
  have e := h.1
  refine ⟨fun z => ?_, fun z => ⟨fun y => ?_, fun y => ⟨by omega, by omega, ?_⟩⟩⟩
  · rw [if_neg (by omega)] at hQ; exact hQ
  · rw [if_neg (by omega)] at hQ; exact hQ
  · rw [if_pos (by omega)] at hQ
    rw [h.2 x (by omega) (by omega)]
    exact hQ
theorem shotsInsert_sp {x : Int} {Q : Sg → Prop} (h : ShC c q n f) (hI : InvSh n f) (x0 : 1 ≤ x) (x1 : x ≤ 9998) (hn : n < 20) (hx : ¬ ∃ j, 0 ≤ j ∧ j < n ∧ f j = x) (hQ : ∀ c', frC c c' q (q + 2) → ShC c' q (n + 1) (insF f (posS f x n.toNat) x) → Q c') : wp_X4_insert q x c Q := by
  have e := h.1
  have n0 := hI.1
  refine ⟨fun z => by omega, fun _ => shotsHas_sp h hI (by omega) (by omega) (fun z => absurd z hx) (fun _ => ⟨fun _ => ?_, fun z => absurd rfl z⟩)⟩
  rintro w rfl
  rw [e]
  intro P hP
  refine lq2 (P := P) (fun k _ => k.toNat) (fun k s => 0 ≤ k ∧ k ≤ n ∧ frC c s q (q + 2) ∧ gI s q 1 = n ∧ posS f x k.toNat = posS f x n.toNat ∧ (∀ p, 0 ≤ p → p < k → gI s (q + 1) p = f p) ∧ ∀ p, k < p → p ≤ n → gI s (q + 1) p = f (p - 1)) ?_ n c ⟨n0, Int.le_refl _, frC.rf _ _ _, e, rfl, fun p p0 p1 => h.2 p p0 p1, fun p p0 p1 => by omega⟩
  rintro k s ⟨k0, k1, hf, es, hp, hlo, hhi⟩ ih
  have done : (posS f x n.toNat : Int) = k → wj_X4_insert_59 q x k s Q := fun ep => by
    refine ⟨k0, by omega, ?_⟩
    rintro s1 rfl
    have e1 : gI (sI s (q + 1) k x) q 1 = n := by rw [gI_sI_ne (by omega)]; exact es
    rw [e1]
    refine ⟨rgO (by omega) (by omega), ?_⟩
    rintro s2 rfl
    refine hQ _ (hf.trans ((frC.sI (by omega) (by omega)).trans (frC.sI (by omega) (by omega)))) ⟨gI_sI_self _ _ _ _, fun p p0 p1 => ?_⟩
    rw [gI_sI_ne (by omega)]
    unfold insF
    rw [ep]
    by_cases h1 : p < k
    · rw [if_pos h1, gI_sI_nj (by omega)]
      exact hlo p p0 h1
    · by_cases h2 : p = k
      · rw [if_neg h1, if_pos h2, h2, gI_sI_self]
      · rw [if_neg h1, if_neg h2, gI_sI_nj h2]
        exact hhi p (by omega) (by omega)
  refine hP k s ⟨fun z => ?_, fun z => ⟨by omega, by omega, fun y => ?_, fun y => ⟨by omega, by omega, by omega, by omega, ?_⟩⟩⟩
  · have : k = 0 := by omega
    subst this
    refine done ?_
    rw [← hp]
    rfl
  · rw [hlo (k - 1) (by omega) (by omega)] at y
    refine done ?_
    rw [← hp, show k.toNat = (k - 1).toNat + 1 by omega, posS, show (((k - 1).toNat : Nat) : Int) = k - 1 by omega, if_neg (by omega)]
    omega
  · rw [hlo (k - 1) (by omega) (by omega)] at y
    rintro s1 rfl
    refine ⟨rgO (by omega) (by omega), ih (k + (-1)) _ ⟨by omega, by omega, hf.trans (frC.sI (by omega) (by omega)), ?_, ?_, fun p p0 p1 => ?_, fun p p0 p1 => ?_⟩ (by omega)⟩
    · rw [gI_sI_ne (by omega)]; exact es
    · rw [← hp, show k.toNat = (k + (-1)).toNat + 1 by omega, posS, show (((k + (-1)).toNat : Nat) : Int) = k - 1 by omega, if_pos (by omega)]
    · rw [gI_sI_nj (by omega)]
      exact hlo p p0 (by omega)
    · by_cases ep : p = k
      · subst ep
        rw [gI_sI_self]
        exact hlo (p - 1) (by omega) (by omega)
      · rw [gI_sI_nj ep]
        exact hhi p (by omega) p1
theorem shotsRemove_sp {x : Int} {Q : Sg → Prop} (h : ShC c q n f) (hI : InvSh n f) (h1 : ∀ p, 0 ≤ p → p < n → f p = x → ∀ c', frC c c' q (q + 2) → ShC c' q (n - 1) (delF f p) → Q c') (h0 : (¬ ∃ j, 0 ≤ j ∧ j < n ∧ f j = x) → ∀ c', frC c c' q (q + 2) → ShC c' q n f → Q c') : wp_X4_remove q x c Q := by
  have e := h.1
  have n0 := hI.1
  have n1 := hI.2.1
  intro P hP
  refine lq3 (P := P) (fun _ k _ => (n - k).toNat) (fun u k s => 0 ≤ k ∧ k ≤ n ∧ frC c s q (q + 2) ∧ gI s q 1 = n ∧ (∀ p, k ≤ p → p < n → gI s (q + 1) p = f p) ∧ ((u = k ∧ ∀ p, 0 ≤ p → p < k → gI s (q + 1) p = f p ∧ f p ≠ x) ∨ ∃ z, 0 ≤ z ∧ z < k ∧ f z = x ∧ u = k - 1 ∧ ∀ p, 0 ≤ p → p < k - 1 → gI s (q + 1) p = delF f z p)) ?_ 0 0 c ⟨by omega, n0, frC.rf _ _ _, e, fun p p0 p1 => h.2 p p0 p1, Or.inl ⟨rfl, fun p p0 p1 => by omega⟩⟩
  rintro u k s ⟨k0, k1, hf, es, hhi, hc⟩ ih
  refine hP u k s ⟨fun z => ?_, fun z => ⟨by omega, by omega, by omega, by omega, ?_⟩⟩
  · have ek : k = n := by omega
    subst ek
    rintro s1 rfl
    have hf2 := hf.trans (frC.sI (q := q) (j := 1) (v := u) (Nat.le_refl q) (by omega))
    rcases hc with ⟨rfl, hc⟩ | ⟨w, w0, w1, hw, rfl, hc⟩
    · refine h0 (fun ⟨j, a, b, y⟩ => (hc j a b).2 y) _ hf2 ⟨gI_sI_self _ _ _ _, fun p p0 p1 => ?_⟩
      rw [gI_sI_ne (by omega)]
      exact (hc p p0 p1).1
    · refine h1 w w0 w1 hw _ hf2 ⟨gI_sI_self _ _ _ _, fun p p0 p1 => ?_⟩
      rw [gI_sI_ne (by omega)]
      exact hc p p0 p1
  · have hk := hhi k (Int.le_refl _) (by omega)
    rintro s1 rfl
    rw [hk]
    have g1 : gI (sI s (q + 1) u (f k)) (q + 1) k = f k := by
      rw [gI_sI]
      split
      · rfl
      · exact hk
    have es1 : gI (sI s (q + 1) u (f k)) q 1 = n := by rw [gI_sI_ne (by omega)]; exact es
    have hf2 := hf.trans (frC.sI (q := q + 1) (j := u) (v := f k) (lo := q) (hi := q + 2) (by omega) (by omega))
    rw [g1]
    have hu : u ≤ k := by rcases hc with ⟨rfl, -⟩ | ⟨w, -, -, -, rfl, -⟩ <;> omega
    have hhi2 : ∀ p, k + 1 ≤ p → p < n → gI (sI s (q + 1) u (f k)) (q + 1) p = f p := fun p p0 p1 => by
      rw [gI_sI_nj (by omega)]
      exact hhi p (by omega) p1
    have u0 : 0 ≤ u := by rcases hc with ⟨rfl, -⟩ | ⟨w, w0, w1, -, rfl, -⟩ <;> omega
    have kk : 0 ≤ k + 1 ∧ k + 1 ≤ n ∧ (n - (k + 1)).toNat < (n - k).toNat := by clear hc; omega
    have rr : rgI (k + 1) ∧ rgI (u + 1) ∧ k < 20 := by clear hc; exact ⟨rgO (by omega) (by omega), rgO (by omega) (by omega), by omega⟩
    refine ⟨k0, rr.2.2, fun y => ⟨rr.1, ih u (k + 1) _ ⟨kk.1, kk.2.1, hf2, es1, hhi2, Or.inr ?_⟩ kk.2.2⟩, fun y => ⟨rr.2.1, rr.1, ih (u + 1) (k + 1) _ ⟨kk.1, kk.2.1, hf2, es1, hhi2, ?_⟩ kk.2.2⟩⟩
    · rcases hc with ⟨rfl, hc⟩ | ⟨w, w0, w1, hw, rfl, hc⟩
      · refine ⟨u, k0, by omega, y, by omega, fun p p0 p1 => ?_⟩
        rw [gI_sI_nj (by omega)]
        unfold delF
        rw [if_pos (by omega)]
        exact (hc p p0 (by omega)).1
      · have := hI.2.2.2 w k w0 w1 (by omega)
        omega
    · rcases hc with ⟨rfl, hc⟩ | ⟨w, w0, w1, hw, rfl, hc⟩
      · refine Or.inl ⟨rfl, fun p p0 p1 => ?_⟩
        by_cases ep : p = u
        · subst ep
          rw [gI_sI_self]
          exact ⟨rfl, y⟩
        · rw [gI_sI_nj ep]
          exact hc p p0 (by omega)
      · refine Or.inr ⟨w, w0, by omega, hw, by omega, fun p p0 p1 => ?_⟩
        by_cases ep : p = k - 1
        · subst ep
          rw [gI_sI_self]
          unfold delF
          rw [if_neg (by omega), show k - 1 + 1 = k by omega]
        · rw [gI_sI_nj ep]
          exact hc p p0 (by omega)
theorem shotsBecome_sp {r : Nat} {Q : Sg → Prop} (h : ShC c r n f) (hn : n ≤ 20) (hd : q + 2 ≤ r ∨ r + 2 ≤ q) (hQ : ∀ c', frC c c' q (q + 2) → ShC c' q n f → Q c') : wp_X4_become q r c Q := by
  rintro s1 rfl
  refine ⟨by omega, by omega, by omega, by omega, by omega, ?_⟩
  rintro s2 rfl
  refine hQ _ ((frC.sI (by omega) (by omega)).trans (frC.sC (by omega) (by omega))) ⟨?_, fun p p0 p1 => ?_⟩
  · rw [gI_sC_ne (by omega), gI_sI_self]
    exact h.1
  · rw [gI_sC, if_pos ⟨rfl, by omega, by omega⟩, gI_sI_ne (by omega), show (0 : Int) + (p - 0) = p by omega]
    exact h.2 p p0 p1
end SHOTS
/-! SETTINGS -/
def InvSe (v : Int → Int) : Prop := ∀ k, 0 ≤ k → k < 5 → tabE 6 k.toNat ≤ v k ∧ v k ≤ tabE 7 k.toNat
def SeC (c : Sg) (q : Nat) (v : Int → Int) : Prop := ∀ k, 0 ≤ k → k < 5 → gI c (q + 1) k = v k
theorem SeC.kept {c c' : Sg} {q : Nat} {v : Int → Int} (h : SeC c q v) {lo hi : Nat} (hf : frC c c' lo hi) (hd : hi ≤ q ∨ q + 2 ≤ lo) : SeC c' q v := fun k k0 k1 => by
  rw [(hf.1 (q + 1) (by omega)).1 k]
  exact h k k0 k1
theorem InvSe.rg {v : Int → Int} (h : InvSe v) : (1 ≤ v 0 ∧ v 0 ≤ 20) ∧ (1 ≤ v 1 ∧ v 1 ≤ 200) ∧ (0 ≤ v 2 ∧ v 2 ≤ 50) ∧ (0 ≤ v 3 ∧ v 3 ≤ 50) ∧ 8 ≤ v 4 ∧ v 4 ≤ 40 :=
  ⟨h 0 (by omega) (by omega), h 1 (by omega) (by omega), h 2 (by omega) (by omega), h 3 (by omega) (by omega), h 4 (by omega) (by omega)⟩
section SETT
variable {c m : Sg} {q : Nat} {v : Int → Int}
theorem setAt_sp {k : Int} {Q : Int → Prop} (h : SeC c q v) (k0 : 0 ≤ k) (k1 : k < 5) (hQ : Q (v k)) : wp_X3_at q k c Q :=
  ⟨fun z => by omega, fun _ => ⟨fun z => by omega, fun _ => ⟨k0, k1, by rw [h k k0 k1]; exact hQ⟩⟩⟩
theorem setTakes_sp {k x : Int} {Q : Int → Prop} (h1 : (0 ≤ k ∧ k < 5 ∧ tabE 6 k.toNat ≤ x ∧ x ≤ tabE 7 k.toNat) → Q 1) (h0 : ¬ (0 ≤ k ∧ k < 5 ∧ tabE 6 k.toNat ≤ x ∧ x ≤ tabE 7 k.toNat) → Q 0) : wp_X3_takes q k x c Q := by
  refine ⟨fun z => h0 (by omega), fun z => ⟨fun y => h0 (by omega), fun y => ⟨fun _ => ⟨by omega, by omega, fun w => h0 ?_, fun w => ⟨by omega, by omega, fun w2 => h0 ?_, fun w2 => h1 ⟨by omega, by omega, ?_, ?_⟩⟩⟩, fun w => by omega⟩⟩⟩
  · rintro ⟨-, -, a, b⟩; omega
  · rintro ⟨-, -, a, b⟩; omega
  · omega
  · omega
theorem setPut_sp {k x : Int} {Q : Sg → Prop} (h : SeC c q v) (k0 : 0 ≤ k) (k1 : k < 5) (hQ : ∀ c', frC c c' q (q + 2) → SeC c' q (fun j => if j = k then x else v j) → Q c') : wp_X3_put q k x c Q := by
  refine ⟨fun z => by omega, fun _ => ⟨fun z => by omega, fun _ => ⟨k0, k1, ?_⟩⟩⟩
  rintro s1 rfl
  refine hQ _ (frC.sI (by omega) (by omega)) (fun j j0 j1 => ?_)
  dsimp only
  by_cases ej : j = k
  · rw [if_pos ej, ej, gI_sI_self]
  · rw [if_neg ej, gI_sI_nj ej]
    exact h j j0 j1
theorem setBecome_sp {r : Nat} {Q : Sg → Prop} (h : SeC c r v) (hd : q + 2 ≤ r ∨ r + 2 ≤ q) (hQ : ∀ c', frC c c' q (q + 2) → SeC c' q v → Q c') : wp_X3_become q r c Q := by
  refine ⟨by omega, by omega, by omega, by omega, by omega, ?_⟩
  rintro s1 rfl
  refine hQ _ (frC.sC (by omega) (by omega)) (fun p p0 p1 => ?_)
  rw [gI_sC, if_pos ⟨rfl, by omega, by omega⟩, show (0 : Int) + (p - 0) = p by omega]
  exact h p p0 p1
end SETT
