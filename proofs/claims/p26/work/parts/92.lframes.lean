/-! the law: frames of both cuts lead to one another -/
theorem told_v {W : Wd} {k : Int} (k0 : 0 ≤ k) (k1 : k ≤ 4) : toldQ W k = W.A.v k := by
  unfold toldQ
  rw [if_pos ⟨k0, k1⟩]
theorem told_5 {W : Wd} : toldQ W 5 = W.A.pn := by
  unfold toldQ
  rw [if_neg (by omega), if_pos rfl]
theorem told_6 {W : Wd} : toldQ W 6 = frS W.A := by
  unfold toldQ
  rw [if_neg (by omega), if_neg (by decide), if_pos rfl]
theorem told_7 {W : Wd} : toldQ W 7 = W.A.sn := by
  unfold toldQ
  rw [if_neg (by omega), if_neg (by decide), if_neg (by decide), if_pos rfl]
theorem told_8 {W : Wd} : toldQ W 8 = W.A.tn := by
  unfold toldQ
  rw [if_neg (by omega), if_neg (by decide), if_neg (by decide), if_neg (by decide), if_pos rfl]
section FRAMES
variable {F L : Int → Int}
theorem new_ge {x : Int} : ∀ (m : Nat) (p l u : Int), (∀ q, p ≤ q → q < p + m → 1 ≤ L q) → newS F L x m p l u ≠ -9 → u ≤ newS F L x m p l u := by
  intro m
  induction m with
  | zero => intro p l u _ h; exact absurd rfl h
  | succ m ih =>
    intro p l u hL h
    have hp := hL p (by omega) (by omega)
    rw [newS] at h ⊢
    split at h
    · rename_i hc
      rw [if_pos hc]
      split at h
      · rename_i hl
        rw [if_pos hl]
        omega
      · rename_i hl
        rw [if_neg hl]
        have := ih (p + 1) (l - 1) (u + L p) (fun q q0 q1 => hL q (by omega) (by omega)) h
        omega
    · rename_i hc
      rw [if_neg hc]
      have := ih (p + 1) l (u + L p) (fun q q0 q1 => hL q (by omega) (by omega)) h
      omega
theorem new_lt {x : Int} : ∀ (m : Nat) (p l u : Int), 0 ≤ l → newS F L x m p l u ≠ -9 → l < m := by
  intro m
  induction m with
  | zero => intro p l u _ h; exact absurd rfl h
  | succ m ih =>
    intro p l u l0 h
    rw [newS] at h
    split at h
    · split at h
      · omega
      · have := ih (p + 1) (l - 1) (u + L p) (by omega) h
        omega
    · have := ih (p + 1) l (u + L p) l0 h
      omega
theorem new_a {x : Int} (m : Nat) {p l u : Int} (hc : 0 ≤ x - F p ∧ x - F p < L p) (hl : l = 0) : newS F L x (m + 1) p l u = u + (x - F p) := by
  rw [newS, if_pos hc, if_pos hl]
theorem new_b {x : Int} (m : Nat) {p l u : Int} (hc : 0 ≤ x - F p ∧ x - F p < L p) (hl : l ≠ 0) : newS F L x (m + 1) p l u = newS F L x m (p + 1) (l - 1) (u + L p) := by
  rw [newS, if_pos hc, if_neg hl]
theorem new_c {x : Int} (m : Nat) {p l u : Int} (hc : ¬ (0 ≤ x - F p ∧ x - F p < L p)) : newS F L x (m + 1) p l u = newS F L x m (p + 1) l (u + L p) := by
  rw [newS, if_neg hc]
theorem old_a (m : Nat) {p y : Int} (h : y < L p) : oldS F L (m + 1) p y = F p + y := by
  rw [oldS, if_pos h]
theorem old_b (m : Nat) {p y : Int} (h : ¬ y < L p) : oldS F L (m + 1) p y = oldS F L m (p + 1) (y - L p) := by
  rw [oldS, if_neg h]
theorem new_mono {x : Int} : ∀ (m : Nat) (p l u : Int), 0 ≤ l → 0 ≤ u → (∀ q, p ≤ q → q < p + m → 1 ≤ L q) → newS F L x m p (l + 1) u ≠ -9 → newS F L x m p l u ≠ -9 ∧ newS F L x m p l u < newS F L x m p (l + 1) u := by
  intro m
  induction m with
  | zero => intro p l u _ _ _ h; exact absurd rfl h
  | succ m ih =>
    intro p l u l0 u0 hL h
    have hp := hL p (by omega) (by omega)
    have hL' : ∀ q, p + 1 ≤ q → q < p + 1 + m → 1 ≤ L q := fun q q0 q1 => hL q (by omega) (by omega)
    by_cases hc : 0 ≤ x - F p ∧ x - F p < L p
    · rw [new_b m hc (by omega : l + 1 ≠ 0), show l + 1 - 1 = l by omega] at h ⊢
      by_cases hl : l = 0
      · rw [new_a m hc hl]
        have := new_ge m (p + 1) l (u + L p) hL' h
        omega
      · rw [new_b m hc hl]
        have := ih (p + 1) (l - 1) (u + L p) (by omega) (by omega) hL'
        rw [show l - 1 + 1 = l by omega] at this
        exact this h
    · rw [new_c m hc] at h ⊢
      rw [new_c m hc]
      exact ih (p + 1) l (u + L p) l0 (by omega) hL' h
theorem new_old {x : Int} : ∀ (m : Nat) (p l u : Int), 0 ≤ l → (∀ q, p ≤ q → q < p + m → 1 ≤ L q) → newS F L x m p l u ≠ -9 → oldS F L m p (newS F L x m p l u - u) = x := by
  intro m
  induction m with
  | zero => intro p l u _ _ h; exact absurd rfl h
  | succ m ih =>
    intro p l u l0 hL h
    have hL' : ∀ q, p + 1 ≤ q → q < p + 1 + m → 1 ≤ L q := fun q q0 q1 => hL q (by omega) (by omega)
    have deep : ∀ l', 0 ≤ l' → newS F L x m (p + 1) l' (u + L p) ≠ -9 → oldS F L (m + 1) p (newS F L x m (p + 1) l' (u + L p) - u) = x := fun l' l0' h' => by
      have g1 := new_ge m (p + 1) l' (u + L p) hL' h'
      rw [old_b m (by omega), show newS F L x m (p + 1) l' (u + L p) - u - L p = newS F L x m (p + 1) l' (u + L p) - (u + L p) by omega]
      exact ih (p + 1) l' (u + L p) l0' hL' h'
    by_cases hc : 0 ≤ x - F p ∧ x - F p < L p
    · by_cases hl : l = 0
      · rw [new_a m hc hl, old_a m (by omega)]
        omega
      · rw [new_b m hc hl] at h ⊢
        exact deep (l - 1) (by omega) h
    · rw [new_c m hc] at h ⊢
      exact deep l l0 h
/-- every frame of the new cut is one of those that its old one tells -/
theorem old_new {x : Int} : ∀ (m : Nat) (p y u : Int), 0 ≤ y → oldS F L m p y ≠ -9 → x = oldS F L m p y → ∃ l, 0 ≤ l ∧ newS F L x m p l u = u + y := by
  intro m
  induction m with
  | zero => intro p y u _ h; exact absurd rfl h
  | succ m ih =>
    intro p y u y0 h hx
    by_cases hy : y < L p
    · rw [old_a m hy] at hx
      refine ⟨0, Int.le_refl _, ?_⟩
      rw [new_a m (by omega) rfl]
      omega
    · rw [old_b m hy] at h hx
      obtain ⟨l, l0, hl⟩ := ih (p + 1) (y - L p) (u + L p) (by omega) h hx
      by_cases hc : 0 ≤ x - F p ∧ x - F p < L p
      · refine ⟨l + 1, by omega, ?_⟩
        rw [new_b m hc (by omega), show l + 1 - 1 = l by omega, hl]
        omega
      · refine ⟨l, l0, ?_⟩
        rw [new_c m hc, hl]
        omega
/-- what is left of the pieces from p on: m of them -/
def lfS (L : Int → Int) : Nat → Int → Int
  | 0, _ => 0
  | m + 1, p => L p + lfS L m (p + 1)
theorem lfS_sm : ∀ (m : Nat) (p : Int), 0 ≤ p → smS L (p + m).toNat = smS L p.toNat + lfS L m p := by
  intro m
  induction m with
  | zero => intro p _; show smS L (p + 0).toNat = smS L p.toNat + 0; rw [Int.add_zero, Int.add_zero]
  | succ m ih =>
    intro p p0
    have h := ih (p + 1) (by omega)
    rw [smS_succ L p0] at h
    rw [show p + ((m + 1 : Nat) : Int) = p + 1 + (m : Int) by omega, h]
    show _ = _ + (L p + lfS L m (p + 1))
    omega
theorem old_in : ∀ (m : Nat) (p y : Int), 0 ≤ y → (∀ q, p ≤ q → q < p + m → 0 ≤ F q ∧ 1 ≤ L q ∧ F q + L q ≤ 10000) → (y < lfS L m p → 0 ≤ oldS F L m p y ∧ oldS F L m p y ≤ 9999) ∧ (lfS L m p ≤ y → oldS F L m p y = -9) := by
  intro m
  induction m with
  | zero => intro p y y0 _; exact ⟨fun h => by have h : y < 0 := h; omega, fun _ => rfl⟩
  | succ m ih =>
    intro p y y0 hq
    have hp := hq p (by omega) (by omega)
    have e : lfS L (m + 1) p = L p + lfS L m (p + 1) := rfl
    have hn : 0 ≤ lfS L m (p + 1) := by
      have : ∀ (k : Nat) (r : Int), p + 1 ≤ r → r + k ≤ p + 1 + m → 0 ≤ lfS L k r := by
        intro k
        induction k with
        | zero => intro r _ _; exact Int.le_refl _
        | succ k ihk =>
          intro r r0 r1
          have := ihk (r + 1) (by omega) (by omega)
          have := hq r (by omega) (by omega)
          show 0 ≤ L r + lfS L k (r + 1)
          omega
      exact this m (p + 1) (Int.le_refl _) (by omega)
    by_cases hy : y < L p
    · rw [old_a m hy, e]
      exact ⟨fun _ => by omega, fun h => by omega⟩
    · have g := ih (p + 1) (y - L p) (by omega) (fun q q0 q1 => hq q (by omega) (by omega))
      rw [old_b m hy, e]
      exact ⟨fun h => g.1 (by omega), fun h => g.2 (by omega)⟩
end FRAMES
section LAW3
variable {c : Sg} {W : Wd} {sl : Int} {sx : Int → Int}
theorem framesB_sp (h : ClC c W) (hI : InvW W) {Q : Int → Prop} (hQ : Q 1) : wj_L_frames_71 sl sx (frS W.A) 1 c Q := by
  obtain ⟨n0, n1, nq, ns⟩ := hI.1.1
  have hLq : ∀ q, 0 ≤ q → q < 0 + (W.A.pn.toNat : Int) → 1 ≤ W.A.L q := fun q q0 q1 => (nq q q0 (by omega)).2.1
  have hin := fun y (y0 : 0 ≤ y) => old_in (F := W.A.F) (L := W.A.L) W.A.pn.toNat 0 y y0 (fun q q0 q1 => by have := nq q q0 (by omega); exact ⟨this.1, this.2.1, this.2.2.2⟩)
  have hN : lfS W.A.L W.A.pn.toNat 0 = frS W.A := by
    have := lfS_sm (L := W.A.L) W.A.pn.toNat 0 (by omega)
    have e0 : smS W.A.L (0 : Int).toNat = 0 := rfl
    rw [show ((0 : Int) + (W.A.pn.toNat : Int)).toNat = W.A.pn.toNat by omega, e0, Int.zero_add] at this
    exact this.symm
  have hNr : frS W.A ≤ 9999 := ns
  rw [hN] at hin
  intro P hP
  refine lq2 (P := P) (fun _ x5 => (20 - x5).toNat) (fun x4 x5 => x4 = 1 ∧ 0 ≤ x5 ∧ x5 ≤ 20) ?_ 1 0 ⟨rfl, by omega, by omega⟩
  rintro x4 x5 ⟨rfl, k0, k1⟩ ih
  refine hP 1 x5 ⟨fun _ => ⟨Or.inr rfl, hQ⟩, fun z => ⟨fun _ => ⟨Or.inr rfl, hQ⟩, fun zN => ⟨rgO (by omega) (by omega), cell_sp (by omega) ⟨by omega, ?_⟩⟩⟩⟩
  have hf := tmod_rg (m := frS W.A) (cel_rg sl sx (60 + x5)).1 (by omega)
  intro fr efr
  rw [← efr] at hf
  refine ⟨rgO (by omega) (by omega), c_toOld h hI ?_⟩
  have eo : toOldQ W.A fr = oldS W.A.F W.A.L W.A.pn.toNat 0 fr := by
    unfold toOldQ
    rw [if_neg (by omega)]
  rw [eo]
  have ho := (hin fr hf.1).1 hf.2
  obtain ⟨o, eo2⟩ : ∃ o, o = oldS W.A.F W.A.L W.A.pn.toNat 0 fr := ⟨_, rfl⟩
  rw [← eo2] at ho ⊢
  obtain ⟨l0, l00, hl0⟩ := old_new (x := o) W.A.pn.toNat 0 fr 0 hf.1 (by omega) eo2
  rw [Int.zero_add] at hl0
  have en : ∀ k, 0 ≤ k → toNewQ W.A o k = newS W.A.F W.A.L o W.A.pn.toNat 0 k 0 := fun k z => by
    unfold toNewQ
    rw [if_neg (by omega)]
  have lt := fun k (z : 0 ≤ k) => new_lt (F := W.A.F) (L := W.A.L) (x := o) W.A.pn.toNat 0 k 0 z
  have mono := fun k (z : 0 ≤ k) => new_mono (F := W.A.F) (L := W.A.L) (x := o) W.A.pn.toNat 0 k 0 z (by omega) hLq
  have back := fun k (z : 0 ≤ k) => new_old (F := W.A.F) (L := W.A.L) (x := o) W.A.pn.toNat 0 k 0 z hLq
  have ge := fun k => new_ge (F := W.A.F) (L := W.A.L) (x := o) W.A.pn.toNat 0 k 0 hLq
  generalize hnw : (fun k => newS W.A.F W.A.L o W.A.pn.toNat 0 k 0) = nw at *
  have hnw' : ∀ k, newS W.A.F W.A.L o W.A.pn.toNat 0 k 0 = nw k := fun k => by rw [← hnw]
  simp only [hnw', Int.sub_zero] at lt mono back ge en hl0
  -- those before one that is there are there
  have below : ∀ (d : Nat) (k : Int), 0 ≤ k → nw (k + d) ≠ -9 → nw k ≠ -9 := by
    intro d
    induction d with
    | zero => intro k _ hk; rw [show k + ((0 : Nat) : Int) = k by omega] at hk; exact hk
    | succ d ihd =>
      intro k k0 hk
      refine ihd k k0 ?_
      rw [show k + ((d + 1 : Nat) : Int) = k + (d : Int) + 1 by omega] at hk
      exact (mono (k + d) (by omega) hk).1
  intro P2 hP2
  refine lq3 (P := P2) (fun _ x8 _ => (W.A.pn - x8).toNat) (fun x4 x8 x9 => x4 = 1 ∧ 0 ≤ x8 ∧ x8 ≤ W.A.pn ∧ (x9 ≠ 0 ∨ ∀ l, 0 ≤ l → l < x8 → nw l ≠ fr)) ?_ 1 0 0 ⟨rfl, by omega, n0, Or.inr (fun l a b => by omega)⟩
  rintro x4 x8 x9 ⟨rfl, t0, t1, hfd⟩ ih2
  refine hP2 1 x8 x9 (c_toNew h hI (by omega) ?_)
  rw [en x8 t0]
  refine ⟨fun z9 => ⟨fun y => absurd y (by decide), fun _ => ⟨fun y => ?_, fun _ => c_told h hI ?_⟩⟩, fun z9 => c_toNew h hI (by omega) ?_⟩
  · exfalso
    have hx := hfd.resolve_left (fun q => q y)
    have : ¬ l0 < x8 := fun q => hx l0 l00 q hl0
    have hb := below (l0 - x8).toNat x8 t0 (by rw [show x8 + ((l0 - x8).toNat : Int) = l0 by omega, hl0]; omega)
    exact hb z9
  · rw [told_5]
    exact ⟨fun y => absurd y (by omega), fun _ => ⟨rgO (by omega) (by omega), ih 1 (x5 + 1) ⟨rfl, by omega, by omega⟩ (by omega)⟩⟩
  · rw [en x8 t0]
    have hlt := lt x8 t0 z9
    have hge := ge x8 z9
    have hbk := back x8 t0 z9
    have go : ∀ x10, x10 = nw x8 → wj_L_frames_173 P P2 sl sx (frS W.A) x5 fr o x8 x9 x10 c Q := fun x10 e10 => by
      have done : ∀ t, (t ≠ 0 ∨ ∀ l, 0 ≤ l → l < x8 + 1 → nw l ≠ fr) → wj_L_frames_197 P P2 sl sx (frS W.A) x5 fr o 1 x8 t c Q := fun t ht => ⟨rgO (by omega) (by omega), ih2 1 (x8 + 1) t ⟨rfl, by omega, by omega, ht⟩ (by omega)⟩
      refine ⟨fun y => ⟨fun _ => done 1 (Or.inl (by decide)), fun w => done 0 (Or.inr (fun l a b => ?_))⟩, fun y => done 1 (Or.inl (by decide))⟩
      have hx := hfd.resolve_left (fun q => q y)
      by_cases e : l = x8
      · rw [e, ← e10]; exact w
      · exact hx l a (by omega)
    -- the frame told leads back
    have hto : toOldQ W.A (nw x8) = o := by
      unfold toOldQ
      have hlim : nw x8 ≤ 9999 := by
        rcases Int.lt_or_le (nw x8) (frS W.A) with q | q
        · omega
        · exfalso
          have := (hin (nw x8) hge).2 q
          rw [hbk] at this
          omega
      rw [if_neg (by omega)]
      exact hbk
    refine ⟨fun y => absurd y (by decide), fun _ => c_toOld h hI ?_⟩
    rw [hto]
    refine ⟨fun _ => ⟨fun _ => go _ rfl, fun y => ⟨rgO (by omega) (by omega), c_toNew h hI (by omega) ?_⟩⟩, fun y => absurd rfl y⟩
    rw [en (x8 - 1) (by omega)]
    have hm := mono (x8 - 1) (by omega)
    rw [show x8 - 1 + 1 = x8 by omega] at hm
    exact ⟨fun w => absurd w (by have := (hm z9).2; omega), fun _ => go _ rfl⟩
theorem frames_law (h : ClC c W) (hI : InvW W) {Q : Int → Prop} (hQ : Q 1) : wp_L_frames sl sx c Q := by
  obtain ⟨n0, n1, nq, ns⟩ := hI.1.1
  have hN0 := hI.1.1.sm (k := W.A.pn) n0 (Int.le_refl _)
  have eN : frS W.A = smS W.A.L W.A.pn.toNat := rfl
  refine c_told h hI ?_
  rw [told_6]
  intro P hP
  refine lq2 (P := P) (fun _ x4 => (W.A.pn - x4).toNat) (fun x3 x4 => 0 ≤ x4 ∧ x4 ≤ W.A.pn ∧ x3 = smS W.A.L x4.toNat) ?_ 0 0 ⟨by omega, n0, rfl⟩
  rintro x3 x4 ⟨k0, k1, e3⟩ ih
  refine hP x3 x4 (c_told h hI ?_)
  rw [told_5]
  refine ⟨fun z => ⟨fun _ => c_toOld h hI ?_, fun y => absurd (by rw [e3, eN]; congr 1; omega) y⟩, fun z => c_pieceAt h hI ?_⟩
  · have hin := old_in (F := W.A.F) (L := W.A.L) W.A.pn.toNat 0 (frS W.A) (by omega) (fun q q0 q1 => by have := nq q q0 (by omega); exact ⟨this.1, this.2.1, this.2.2.2⟩)
    have hl : lfS W.A.L W.A.pn.toNat 0 = frS W.A := by
      have := lfS_sm (L := W.A.L) W.A.pn.toNat 0 (by omega)
      have e0 : smS W.A.L (0 : Int).toNat = 0 := rfl
      rw [show ((0 : Int) + (W.A.pn.toNat : Int)).toNat = W.A.pn.toNat by omega, e0, Int.zero_add] at this
      exact this.symm
    have e9 : toOldQ W.A (frS W.A) = -9 := by
      unfold toOldQ
      rw [if_neg (by omega)]
      exact hin.2 (by omega)
    rw [e9]
    exact ⟨fun _ => framesB_sp h hI hQ, fun y => absurd rfl y⟩
  · have e2 : pieceAtQ W.A x4 2 = smS W.A.L x4.toNat := by
      unfold pieceAtQ
      rw [if_neg (by omega), if_neg (by decide), if_neg (by decide), if_pos rfl]
    have e1 : pieceAtQ W.A x4 1 = W.A.L x4 := by
      unfold pieceAtQ
      rw [if_neg (by omega), if_neg (by decide), if_pos rfl]
    rw [e2]
    refine ⟨fun _ => c_pieceAt h hI ?_, fun y => absurd e3.symm y⟩
    rw [e1]
    intro x3' e3'
    have hs := hI.1.1.sm (k := x4 + 1) (by omega) (by omega)
    have hss := smS_succ W.A.L k0
    have hx : x3' = smS W.A.L (x4 + 1).toNat := by omega
    exact ⟨rgO (by omega) (by omega), rgO (by omega) (by omega), ih x3' (x4 + 1) ⟨by omega, by omega, hx⟩ (by omega)⟩
end LAW3
