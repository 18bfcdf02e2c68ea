/-! THE STEPS: what they make of subtitles -/
theorem bgS_ins (T : Int → Sb) (k : Int) (S : Sb) (j : Int) : bgS (insF T k S) j = insF (bgS T) k S.b j := by
  unfold bgS insF
  (repeat' split) <;> rfl
theorem InvTr.ins {n : Int} {T : Int → Sb} {S : Sb} (h : InvTr n T) (hn : n < 16) (hS : InvSb S) : InvTr (n + 1) (insF T (posS (bgS T) S.b n.toNat) S) := by
  obtain ⟨h0, h1, h2, h3⟩ := h
  have hl := posS_le (bgS T) S.b n.toNat
  have hhi := posS_hi (bgS T) S.b n.toNat
  have hlo := posS_lo (bgS T) S.b n.toNat
  generalize posS (bgS T) S.b n.toNat = w at *
  have key : ∀ j, insF T w S j = if j < (w : Int) then T j else if j = (w : Int) then S else T (j - 1) := fun j => rfl
  refine ⟨by omega, by omega, fun j j0 j1 => ?_, fun i j i0 ij j1 => ?_⟩
  · rw [key]
    split
    · exact h2 j j0 (by omega)
    · split
      · exact hS
      · exact h2 (j - 1) (by omega) (by omega)
  · rw [key, key]
    by_cases a1 : i < (w : Int)
    · rw [if_pos a1]
      by_cases b1 : j < (w : Int)
      · rw [if_pos b1]; exact h3 i j i0 ij (by omega)
      · rw [if_neg b1]
        by_cases b2 : j = (w : Int)
        · rw [if_pos b2]
          have e1 : (T i).b ≤ (T ((w : Int) - 1)).b := h3 i ((w : Int) - 1) i0 (by omega) (by omega)
          have e2 : (T ((w : Int) - 1)).b ≤ S.b := hlo (by omega)
          omega
        · rw [if_neg b2]; exact h3 i (j - 1) i0 (by omega) (by omega)
    · rw [if_neg a1]
      by_cases a2 : i = (w : Int)
      · rw [if_pos a2]
        by_cases b2 : j = (w : Int)
        · rw [if_neg (by omega), if_pos b2]; exact Int.le_refl _
        · rw [if_neg (by omega), if_neg b2]
          have e1 : S.b < (T (j - 1)).b := hhi (j - 1) (by omega) (by omega)
          omega
      · rw [if_neg a2, if_neg (by omega), if_neg (by omega)]
        exact h3 (i - 1) (j - 1) (by omega) (by omega) (by omega)
theorem InvTr.del {n x : Int} {T : Int → Sb} (h : InvTr n T) (x0 : 0 ≤ x) (x1 : x < n) : InvTr (n - 1) (delF T x) := by
  obtain ⟨h0, h1, h2, h3⟩ := h
  have key : ∀ j, delF T x j = if j < x then T j else T (j + 1) := fun j => rfl
  refine ⟨by omega, by omega, fun j j0 j1 => ?_, fun i j i0 ij j1 => ?_⟩
  · rw [key]
    split
    · exact h2 j j0 (by omega)
    · exact h2 (j + 1) (by omega) (by omega)
  · rw [key, key]
    by_cases a1 : i < x
    · rw [if_pos a1]
      split
      · exact h3 i j i0 ij (by omega)
      · exact h3 i (j + 1) i0 (by omega) (by omega)
    · rw [if_neg a1, if_neg (by omega)]
      exact h3 (i + 1) (j + 1) (by omega) (by omega) (by omega)
theorem InvTr.bd {n : Int} {T : Int → Sb} (n1 : n ≤ 16) (h : ∀ j, 0 ≤ j → j < n → InvSb (T j)) : ∀ k : Nat, (k : Int) ≤ n → InvTr k (bdS T k) := by
  intro k
  induction k with
  | zero => intro _; exact ⟨by omega, by omega, fun j j0 j1 => by omega, fun i j i0 ij j1 => by omega⟩
  | succ k ih =>
    intro hk
    have := (ih (by omega)).ins (by omega) (h (k : Int) (by omega) (by omega))
    rw [show ((k : Int)).toNat = k by omega] at this
    exact this
/-- others that are the same -/
theorem InvTr.congr {n : Int} {T T' : Int → Sb} (h : InvTr n T) (hT : ∀ j, 0 ≤ j → j < n → T j = T' j) : InvTr n T' :=
  ⟨h.1, h.2.1, fun j j0 j1 => hT j j0 j1 ▸ h.2.2.1 j j0 j1, fun i j i0 ij j1 => by rw [← hT i i0 (by omega), ← hT j (by omega) j1]; exact h.2.2.2 i j i0 ij j1⟩
/-- what is in order stays so -/
theorem bdS_id {n : Int} {T : Int → Sb} (h : ∀ i j, 0 ≤ i → i ≤ j → j < n → (T i).b ≤ (T j).b) : ∀ k : Nat, (k : Int) ≤ n → ∀ j : Int, 0 ≤ j → j < k → bdS T k j = T j := by
  intro k
  induction k with
  | zero => intro _ j j0 j1; omega
  | succ k ih =>
    intro hk j j0 j1
    have hp : posS (bgS (bdS T k)) (T (k : Int)).b k = k := by
      cases k with
      | zero => rfl
      | succ k =>
        unfold posS
        rw [if_neg ?_]
        show ¬ (T ((k + 1 : Nat) : Int)).b < (bdS T (k + 1) (k : Int)).b
        rw [ih (by omega) (k : Int) (by omega) (by omega)]
        have := h (k : Int) ((k + 1 : Nat) : Int) (by omega) (by omega) (by omega)
        omega
    show insF (bdS T k) (posS (bgS (bdS T k)) (T (k : Int)).b k) (T (k : Int)) j = T j
    rw [hp]
    unfold insF
    by_cases e : j < (k : Int)
    · rw [if_pos e]; exact ih (by omega) j j0 e
    · rw [if_neg e, if_pos (by omega), show j = (k : Int) by omega]
/-! mapping -/
def Fn : Type := Int × (Int → Int) × (Int → Int)
def Fn.m (X : Fn) : Int := X.1
def Fn.B (X : Fn) : Int → Int := X.2.1
def Fn.E (X : Fn) : Int → Int := X.2.2
def mkF (m : Int) (B E : Int → Int) : Fn := (m, B, E)
def ptS (X : Fn) (x y : Int) : Fn := if 0 < X.m ∧ X.E (X.m - 1) = x then mkF X.m X.B (fun j => if j = X.m - 1 then y else X.E j) else mkF (X.m + 1) (fun j => if j = X.m then x else X.B j) (fun j => if j = X.m then y else X.E j)
def fnG (F L : Int → Int) (b e : Int) : Nat → Fn
  | 0 => mkF 0 (fun _ => 0) (fun _ => 0)
  | p + 1 => if min e (F (p : Int) + L (p : Int)) - max b (F (p : Int)) < 4 then fnG F L b e p else ptS (fnG F L b e p) (smS L p + max b (F (p : Int)) - F (p : Int)) (smS L p + min e (F (p : Int) + L (p : Int)) - F (p : Int))
theorem fnG_succ (F L : Int → Int) (b e : Int) {p : Int} (h : 0 ≤ p) : fnG F L b e (p + 1).toNat = if min e (F p + L p) - max b (F p) < 4 then fnG F L b e p.toNat else ptS (fnG F L b e p.toNat) (smS L p.toNat + max b (F p) - F p) (smS L p.toNat + min e (F p + L p) - F p) := by
  rw [show (p + 1).toNat = p.toNat + 1 by omega, fnG, show ((p.toNat : Nat) : Int) = p by omega]
def InvFn (X : Fn) (p u : Int) : Prop := 0 ≤ X.m ∧ X.m ≤ p ∧ ∀ j, 0 ≤ j → j < X.m → 0 ≤ X.B j ∧ X.B j < X.E j ∧ X.E j ≤ u
theorem InvFn.pt {X : Fn} {p u x y u' : Int} (h : InvFn X p u) (hx : 0 ≤ x) (hxy : x < y) (hy : y ≤ u') (hu : u ≤ u') : InvFn (ptS X x y) (p + 1) u' := by
  obtain ⟨h0, h1, h2⟩ := h
  unfold ptS
  by_cases hc : 0 < X.m ∧ X.E (X.m - 1) = x
  · rw [if_pos hc]
    refine ⟨h0, by show X.m ≤ p + 1; omega, fun j j0 j1 => ?_⟩
    have j1 : j < X.m := j1
    have := h2 j j0 j1
    show 0 ≤ X.B j ∧ X.B j < (if j = X.m - 1 then y else X.E j) ∧ (if j = X.m - 1 then y else X.E j) ≤ u'
    split
    · rename_i e
      have e2 := hc.2
      rw [← e] at e2
      omega
    · omega
  · rw [if_neg hc]
    refine ⟨by show 0 ≤ X.m + 1; omega, by show X.m + 1 ≤ p + 1; omega, fun j j0 j1 => ?_⟩
    have j1 : j < X.m + 1 := j1
    show 0 ≤ (if j = X.m then x else X.B j) ∧ (if j = X.m then x else X.B j) < (if j = X.m then y else X.E j) ∧ (if j = X.m then y else X.E j) ≤ u'
    split
    · omega
    · have := h2 j j0 (by omega)
      omega
theorem InvFn.mono {X : Fn} {p u p' u' : Int} (h : InvFn X p u) (hp : p ≤ p') (hu : u ≤ u') : InvFn X p' u' :=
  ⟨h.1, Int.le_trans h.2.1 hp, fun j j0 j1 => by have := h.2.2 j j0 j1; omega⟩
theorem fnG_inv {n : Int} {F L : Int → Int} (hI : InvCu n F L) {b e : Int} (hb : 0 ≤ b) : ∀ p : Nat, (p : Int) ≤ n → InvFn (fnG F L b e p) p (smS L p) := by
  intro p
  induction p with
  | zero => intro _; exact ⟨Int.le_refl _, Int.le_refl _, fun j j0 j1 => by have j1 : j < 0 := j1; omega⟩
  | succ p ih =>
    intro hp
    have h := ih (by omega)
    have hc := hI.2.2.1 p (by omega) (by omega)
    have s1 := hI.sm (k := (p : Int)) (by omega) (by omega)
    rw [show ((p : Int)).toNat = p by omega] at s1
    have ek : smS L (p + 1) = smS L p + L (p : Int) := rfl
    rw [fnG]
    split
    · exact h.mono (by omega) (by omega)
    · have := InvFn.pt (x := smS L p + max b (F (p : Int)) - F (p : Int)) (y := smS L p + min e (F (p : Int) + L (p : Int)) - F (p : Int)) (u' := smS L (p + 1)) h (by omega) (by omega) (by omega) (by omega)
      exact this
def fnS (pn : Int) (F L : Int → Int) (S : Sb) : Fn := fnG F L S.b S.e pn.toNat
theorem fnS_inv {n : Int} {F L : Int → Int} (hI : InvCu n F L) {S : Sb} (hS : InvSb S) : InvFn (fnS n F L S) 10 9999 := by
  have h0 := hI.1
  have := fnG_inv hI (b := S.b) (e := S.e) hS.1 n.toNat (by omega)
  have h1 := hI.2.1
  have h2 := hI.2.2.2
  exact this.mono (by omega) h2
/-- k stretches of S come behind n -/
def inG (T : Int → Sb) (n : Int) (S : Sb) (X : Fn) : Nat → Int → Sb
  | 0 => T
  | k + 1 => insF (inG T n S X k) (posS (bgS (inG T n S X k)) (X.B (k : Int)) (n + k).toNat) (mkS (X.B (k : Int)) (X.E (k : Int)) S.p S.one S.two)
theorem inG_succ (T : Int → Sb) (n : Int) (S : Sb) (X : Fn) {k : Int} (h : 0 ≤ k) : inG T n S X (k + 1).toNat = insF (inG T n S X k.toNat) (posS (bgS (inG T n S X k.toNat)) (X.B k) (n + k).toNat) (mkS (X.B k) (X.E k) S.p S.one S.two) := by
  rw [show (k + 1).toNat = k.toNat + 1 by omega, inG, show ((k.toNat : Nat) : Int) = k by omega]
theorem inG_inv {T : Int → Sb} {n : Int} {S : Sb} {X : Fn} (hT : InvTr n T) (hS : InvSb S) (hX : InvFn X 10 9999) : ∀ k : Nat, (k : Int) ≤ X.m → n + k ≤ 16 → InvTr (n + k) (inG T n S X k) := by
  intro k
  induction k with
  | zero => intro _ _; rw [show n + ((0 : Nat) : Int) = n by omega]; exact hT
  | succ k ih =>
    intro h1 h2
    have h := ih (by omega) (by omega)
    have hx := hX.2.2 (k : Int) (by omega) (by omega)
    have := h.ins (S := mkS (X.B (k : Int)) (X.E (k : Int)) S.p S.one S.two) (by omega) ⟨hx.1, hx.2.1, hx.2.2, hS.2.2.2.1, hS.2.2.2.2.1, hS.2.2.2.2.2⟩
    rw [show n + ((k + 1 : Nat) : Int) = n + (k : Int) + 1 by omega]
    exact this
def Mp : Type := Int × (Int → Sb) × Int
def Mp.n (X : Mp) : Int := X.1
def Mp.T (X : Mp) : Int → Sb := X.2.1
def Mp.lo (X : Mp) : Int := X.2.2
def mkP (n : Int) (T : Int → Sb) (l : Int) : Mp := (n, T, l)
def mpG (pn : Int) (F L : Int → Int) (T : Int → Sb) : Nat → Mp
  | 0 => mkP 0 T 0
  | i + 1 => mkP ((mpG pn F L T i).n + (fnS pn F L (T (i : Int))).m) (inG (mpG pn F L T i).T (mpG pn F L T i).n (T (i : Int)) (fnS pn F L (T (i : Int))) (fnS pn F L (T (i : Int))).m.toNat) (if (fnS pn F L (T (i : Int))).m = 0 then (mpG pn F L T i).lo + 1 else (mpG pn F L T i).lo)
theorem mpG_succ (pn : Int) (F L : Int → Int) (T : Int → Sb) {i : Int} (h : 0 ≤ i) : mpG pn F L T (i + 1).toNat = mkP ((mpG pn F L T i.toNat).n + (fnS pn F L (T i)).m) (inG (mpG pn F L T i.toNat).T (mpG pn F L T i.toNat).n (T i) (fnS pn F L (T i)) (fnS pn F L (T i)).m.toNat) (if (fnS pn F L (T i)).m = 0 then (mpG pn F L T i.toNat).lo + 1 else (mpG pn F L T i.toNat).lo) := by
  rw [show (i + 1).toNat = i.toNat + 1 by omega, mpG, show ((i.toNat : Nat) : Int) = i by omega]
theorem mpG_mono {pn : Int} {F L : Int → Int} (hI : InvCu pn F L) {n : Int} {T : Int → Sb} (hT : InvTr n T) : ∀ k i : Nat, ((i + k : Nat) : Int) ≤ n → (mpG pn F L T i).n ≤ (mpG pn F L T (i + k)).n := by
  intro k
  induction k with
  | zero => intro i _; exact Int.le_refl _
  | succ k ih =>
    intro i hk
    have h1 := ih i (by omega)
    have h2 := (fnS_inv hI (hT.2.2.1 ((i + k : Nat) : Int) (by omega) (by omega))).1
    show (mpG pn F L T i).n ≤ (mpG pn F L T (i + k)).n + (fnS pn F L (T ((i + k : Nat) : Int))).m
    omega
theorem mpG_inv {pn : Int} {F L : Int → Int} (hI : InvCu pn F L) {n : Int} {T : Int → Sb} (hT : InvTr n T) : ∀ i : Nat, (i : Int) ≤ n → (mpG pn F L T i).n ≤ 16 → InvTr (mpG pn F L T i).n (mpG pn F L T i).T ∧ 0 ≤ (mpG pn F L T i).lo ∧ (mpG pn F L T i).lo ≤ i := by
  intro i
  induction i with
  | zero => intro _ _; exact ⟨⟨Int.le_refl _, by show (0 : Int) ≤ 16; omega, fun j j0 j1 => by have j1 : j < 0 := j1; omega, fun i j i0 ij j1 => by have j1 : j < 0 := j1; omega⟩, Int.le_refl _, Int.le_refl _⟩
  | succ i ih =>
    intro hi h16
    have hS := hT.2.2.1 (i : Int) (by omega) (by omega)
    have hX := fnS_inv hI hS
    have h16 : (mpG pn F L T i).n + (fnS pn F L (T (i : Int))).m ≤ 16 := h16
    have h0 := hX.1
    obtain ⟨h1, h2, h3⟩ := ih (by omega) (by omega)
    have := inG_inv h1 hS hX (fnS pn F L (T (i : Int))).m.toNat (by omega) (by omega)
    rw [show (((fnS pn F L (T (i : Int))).m.toNat : Nat) : Int) = (fnS pn F L (T (i : Int))).m by omega] at this
    refine ⟨this, ?_⟩
    show 0 ≤ (if (fnS pn F L (T (i : Int))).m = 0 then (mpG pn F L T i).lo + 1 else (mpG pn F L T i).lo) ∧ (if (fnS pn F L (T (i : Int))).m = 0 then (mpG pn F L T i).lo + 1 else (mpG pn F L T i).lo) ≤ ((i + 1 : Nat) : Int)
    split <;> omega
/-! merging -/
def Mg : Type := Int × (Int → Sb)
def Mg.n (X : Mg) : Int := X.1
def Mg.T (X : Mg) : Int → Sb := X.2
def oneS (S S' : Sb) : Sb := mkS S.b (max S.e S'.e) 2 S.one S'.one
def upS (T : Int → Sb) (k : Int) (S : Sb) : Int → Sb := fun j => if j = k then S else T j
def mkG (n : Int) (T : Int → Sb) : Mg := (n, T)
def mgG : Nat → Int → Int → (Int → Sb) → Mg
  | 0, _, n, T => mkG n T
  | m + 1, k, n, T => if k + 1 < n then (if ovS (T k) (T (k + 1)) then mgG m (k + 1) (n - 1) (delF (upS T k (oneS (T k) (T (k + 1)))) (k + 1)) else mgG m (k + 1) n T) else mkG n T
theorem InvSb.one {S S' : Sb} (h : InvSb S) (h' : InvSb S') : InvSb (oneS S S') := by
  have a := rgb h
  have b := rgb h'
  exact ⟨a.1, by show S.b < max S.e S'.e; omega, by show max S.e S'.e ≤ 9999; omega, Or.inr rfl, h.2.2.2.2.1, fun _ => h'.2.2.2.2.1⟩
theorem InvTr.up {n k : Int} {T : Int → Sb} {S : Sb} (h : InvTr n T) (hS : InvSb S) (hb : S.b = (T k).b) : InvTr n (upS T k S) := by
  have e : ∀ j, (upS T k S j).b = (T j).b := fun j => by
    unfold upS
    split
    · rename_i e; rw [e]; exact hb
    · rfl
  refine ⟨h.1, h.2.1, fun j j0 j1 => ?_, fun i j i0 ij j1 => ?_⟩
  · unfold upS
    split
    · exact hS
    · exact h.2.2.1 j j0 j1
  · rw [e, e]; exact h.2.2.2 i j i0 ij j1
theorem mgG_inv : ∀ (m : Nat) (k n : Int) (T : Int → Sb), 0 ≤ k → InvTr n T → InvTr (mgG m k n T).n (mgG m k n T).T := by
  intro m
  induction m with
  | zero => intro k n T _ h; exact h
  | succ m ih =>
    intro k n T k0 h
    rw [mgG]
    by_cases hk : k + 1 < n
    · rw [if_pos hk]
      by_cases ho : ovS (T k) (T (k + 1))
      · rw [if_pos ho]
        exact ih (k + 1) (n - 1) _ (by omega) ((h.up ((h.2.2.1 k k0 (by omega)).one (h.2.2.1 (k + 1) (by omega) (by omega))) rfl).del (by omega) (by omega))
      · rw [if_neg ho]
        exact ih (k + 1) n T (by omega) h
    · rw [if_neg hk]
      exact h
/-! reading, snapping, gaps -/
def edS (S : Sb) (e : Int) : Sb := mkS S.b e S.p S.one S.two
def rgS (v : Int → Int) (fr n : Int) (T : Int → Sb) : Int → Sb := fun j => edS (T j) (max (T j).e (min ((T j).b + rdS v (T j)) (min fr (ltS v n T j))))
def gpS (v : Int → Int) (n : Int) (T : Int → Sb) : Int → Sb := fun j => edS (T j) (min (T j).e (max (ltS v n T j) ((T j).b + 1)))
def snb (n : Int) (f : Int → Int) (r : Int) (S : Sb) : Int := if nrS n f S.b r ≠ -9 ∧ nrS n f S.b r < S.e then nrS n f S.b r else S.b
def sne (n : Int) (f : Int → Int) (r : Int) (S : Sb) : Int := if nrS n f S.e r ≠ -9 ∧ snb n f r S < nrS n f S.e r then nrS n f S.e r else S.e
def snS (n : Int) (f : Int → Int) (r : Int) (T : Int → Sb) : Int → Sb := fun j => mkS (snb n f r (T j)) (sne n f r (T j)) (T j).p (T j).one (T j).two
theorem InvSb.ed {S : Sb} (h : InvSb S) {e : Int} (h1 : S.b < e) (h2 : e ≤ 9999) : InvSb (edS S e) := ⟨h.1, h1, h2, h.2.2.2.1, h.2.2.2.2.1, h.2.2.2.2.2⟩
theorem ltS_rg {v : Int → Int} (hv : InvSe v) {n : Int} {T : Int → Sb} (hT : InvTr n T) {i : Int} (i0 : 0 ≤ i) (i1 : i < n) : -50 ≤ ltS v n T i ∧ ltS v n T i ≤ 9999 := by
  have h := nxS_rg (T := T) i0 i1
  have g := hv.rg
  unfold ltS
  split
  · omega
  · have := rgb (hT.2.2.1 (nxS n T i) (by omega) (by omega))
    omega
theorem InvTr.rg {v : Int → Int} {fr n : Int} {T : Int → Sb} (h : InvTr n T) (hv : InvSe v) : InvTr n (rgS v fr n T) := by
  refine ⟨h.1, h.2.1, fun j j0 j1 => (h.2.2.1 j j0 j1).ed ?_ ?_, h.2.2.2⟩
  · have := rgb (h.2.2.1 j j0 j1); omega
  · have := rgb (h.2.2.1 j j0 j1)
    have := ltS_rg hv h j0 j1
    omega
theorem InvTr.gp {v : Int → Int} {n : Int} {T : Int → Sb} (h : InvTr n T) : InvTr n (gpS v n T) := by
  refine ⟨h.1, h.2.1, fun j j0 j1 => (h.2.2.1 j j0 j1).ed ?_ ?_, h.2.2.2⟩
  · have := rgb (h.2.2.1 j j0 j1); omega
  · have := rgb (h.2.2.1 j j0 j1); omega
theorem InvSb.sn {n r : Int} {f : Int → Int} (hf : InvSh n f) {T : Int → Sb} {j : Int} (h : InvSb (T j)) : InvSb (snS n f r T j) := by
  have b := rgb h
  have n1 := nrS_rg hf (T j).b r
  have n2 := nrS_rg hf (T j).e r
  have s1 : 0 ≤ snb n f r (T j) ∧ snb n f r (T j) < (T j).e := by
    unfold snb
    split
    · rename_i hc
      have := n1.resolve_left hc.1
      omega
    · omega
  refine ⟨s1.1, ?_, ?_, h.2.2.2.1, h.2.2.2.2.1, h.2.2.2.2.2⟩
  · show snb n f r (T j) < sne n f r (T j)
    unfold sne
    split <;> omega
  · show sne n f r (T j) ≤ 9999
    unfold sne
    split
    · rename_i hc
      have := n2.resolve_left hc.1
      omega
    · omega
/-! all of them -/
def setT (A : St) (n : Int) (T : Int → Sb) : St := mkA A.pn A.F A.L A.sn A.f A.v n T
theorem InvSt.setT {A : St} (h : InvSt A) {n : Int} {T : Int → Sb} (hT : InvTr n T) : InvSt (setT A n T) := ⟨h.1, h.2.1, h.2.2.1, hT⟩
def frS (A : St) : Int := smS A.L A.pn.toNat
def s1S (A : St) : St := setT A (mpG A.pn A.F A.L A.T A.tn.toNat).n (mpG A.pn A.F A.L A.T A.tn.toNat).T
def s2S (A : St) : St := setT A (mgG A.tn.toNat 0 A.tn A.T).n (mgG A.tn.toNat 0 A.tn A.T).T
def s3S (A : St) : St := setT A A.tn (rgS A.v (frS A) A.tn A.T)
def s4S (A : St) : St := setT A A.tn (bdS (snS A.sn A.f (A.v 3) A.T) A.tn.toNat)
def s5S (A : St) : St := setT A A.tn (gpS A.v A.tn A.T)
def r1S (A : St) (x : Int) : St := if jAnd x 1 = 0 then A else s1S A
def r2S (A : St) (x : Int) : St := if jAnd x 2 = 0 then r1S A x else s2S (r1S A x)
def r3S (A : St) (x : Int) : St := if jAnd x 4 = 0 then r2S A x else s3S (r2S A x)
def r4S (A : St) (x : Int) : St := if jAnd x 8 = 0 then r3S A x else s4S (r3S A x)
def r5S (A : St) (x : Int) : St := if jAnd x 16 = 0 then r4S A x else s5S (r4S A x)
abbrev fuS (A : St) (x : Int) : Prop := jAnd x 1 ≠ 0 ∧ 16 < (mpG A.pn A.F A.L A.T A.tn.toNat).n
def loS (A : St) (x : Int) : Int := if jAnd x 1 = 0 then 0 else (mpG A.pn A.F A.L A.T A.tn.toNat).lo
theorem r1S_inv {A : St} (h : InvSt A) {x : Int} (hx : ¬ fuS A x) : InvSt (r1S A x) := by
  unfold r1S
  split
  · exact h
  · rename_i hc
    have h0 := h.2.2.2.1
    exact h.setT (mpG_inv h.1 h.2.2.2 A.tn.toNat (by omega) (Int.not_lt.mp (fun z => hx ⟨hc, z⟩))).1
theorem r2S_inv {A : St} (h : InvSt A) {x : Int} (hx : ¬ fuS A x) : InvSt (r2S A x) := by
  unfold r2S
  split
  · exact r1S_inv h hx
  · exact (r1S_inv h hx).setT (mgG_inv _ _ _ _ (Int.le_refl _) (r1S_inv h hx).2.2.2)
theorem r3S_inv {A : St} (h : InvSt A) {x : Int} (hx : ¬ fuS A x) : InvSt (r3S A x) := by
  unfold r3S
  split
  · exact r2S_inv h hx
  · exact (r2S_inv h hx).setT ((r2S_inv h hx).2.2.2.rg (r2S_inv h hx).2.2.1)
theorem r4S_inv {A : St} (h : InvSt A) {x : Int} (hx : ¬ fuS A x) : InvSt (r4S A x) := by
  have g := r3S_inv h hx
  unfold r4S
  split
  · exact g
  · refine g.setT ?_
    have h0 := g.2.2.2.1
    have := InvTr.bd (T := snS (r3S A x).sn (r3S A x).f ((r3S A x).v 3) (r3S A x).T) g.2.2.2.2.1 (fun j j0 j1 => (g.2.2.2.2.2.1 j j0 j1).sn g.2.1) (r3S A x).tn.toNat (by omega)
    rw [show (((r3S A x).tn.toNat : Nat) : Int) = (r3S A x).tn by omega] at this
    exact this
theorem r5S_inv {A : St} (h : InvSt A) {x : Int} (hx : ¬ fuS A x) : InvSt (r5S A x) := by
  unfold r5S
  split
  · exact r4S_inv h hx
  · exact (r4S_inv h hx).setT (r4S_inv h hx).2.2.2.gp
/-- cuts, shot changes and settings stay -/
theorem r_same (A : St) (x : Int) : ∀ B, (B = r1S A x ∨ B = r2S A x ∨ B = r3S A x ∨ B = r4S A x ∨ B = r5S A x) → B.pn = A.pn ∧ B.F = A.F ∧ B.L = A.L ∧ B.sn = A.sn ∧ B.f = A.f ∧ B.v = A.v := by
  have h1 : (r1S A x).1 = A.1 ∧ (r1S A x).2.1 = A.2.1 ∧ (r1S A x).2.2.1 = A.2.2.1 := by unfold r1S; split <;> exact ⟨rfl, rfl, rfl⟩
  have h2 : (r2S A x).1 = A.1 ∧ (r2S A x).2.1 = A.2.1 ∧ (r2S A x).2.2.1 = A.2.2.1 := by unfold r2S; split <;> exact h1
  have h3 : (r3S A x).1 = A.1 ∧ (r3S A x).2.1 = A.2.1 ∧ (r3S A x).2.2.1 = A.2.2.1 := by unfold r3S; split <;> exact h2
  have h4 : (r4S A x).1 = A.1 ∧ (r4S A x).2.1 = A.2.1 ∧ (r4S A x).2.2.1 = A.2.2.1 := by unfold r4S; split <;> exact h3
  have h5 : (r5S A x).1 = A.1 ∧ (r5S A x).2.1 = A.2.1 ∧ (r5S A x).2.2.1 = A.2.2.1 := by unfold r5S; split <;> exact h4
  have key : ∀ B : St, B.1 = A.1 ∧ B.2.1 = A.2.1 ∧ B.2.2.1 = A.2.2.1 → B.pn = A.pn ∧ B.F = A.F ∧ B.L = A.L ∧ B.sn = A.sn ∧ B.f = A.f ∧ B.v = A.v := fun B ⟨a, b, d⟩ => by
    unfold St.pn St.F St.L St.sn St.f St.v
    rw [a, b, d]
    exact ⟨rfl, rfl, rfl, rfl, rfl, rfl⟩
  rintro B (rfl | rfl | rfl | rfl | rfl)
  · exact key _ h1
  · exact key _ h2
  · exact key _ h3
  · exact key _ h4
  · exact key _ h5
