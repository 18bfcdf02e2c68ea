/-! the class's tracks as a whole; its states -/
/-- the first k come one after the other -/
def bdS (T : Int → Sb) : Nat → Int → Sb
  | 0 => T
  | k + 1 => insF (bdS T k) (posS (bgS (bdS T k)) (T (k : Int)).b k) (T (k : Int))
theorem bdS_succ (T : Int → Sb) {k : Int} (h : 0 ≤ k) : bdS T (k + 1).toNat = insF (bdS T k.toNat) (posS (bgS (bdS T k.toNat)) (T k).b k.toNat) (T k) := by
  rw [show (k + 1).toNat = k.toNat + 1 by omega]
  show insF (bdS T k.toNat) (posS (bgS (bdS T k.toNat)) (T (k.toNat : Int)).b k.toNat) (T (k.toNat : Int)) = _
  rw [show ((k.toNat : Nat) : Int) = k by omega]
section TRACK2
variable {c : Sg} {q r : Nat} {n : Int} {T : Int → Sb} {S : Sb}
theorem settleAll_sp {Q : Sg → Prop} (h : TrC c q n T) (n0 : 0 ≤ n) (hn : n ≤ 16) (ht : trk q) (hQ : ∀ c', frC c c' q (q + 18) → TrC c' q n (bdS T n.toNat) → Q c') : wp_X7_settleAll q c Q := by
  intro P hP
  refine lq2 (P := P) (fun k _ => (n - k).toNat) (fun k s => 1 ≤ k ∧ (k ≤ n ∨ (k = 1 ∧ n = 0)) ∧ frC c s q (q + 18) ∧ TrC s q n (fun j => if j < k then bdS T k.toNat j else T j)) ?_ 1 c ⟨by omega, by omega, frC.rf _ _ _, h.congr (fun j j0 j1 => ?_)⟩
  · rintro k s ⟨k0, k1, hf, hs⟩ ih
    refine hP k s ⟨fun z => ?_, fun z => ?_⟩
    · have := hs.1
      refine hQ s hf (hs.congr (fun j j0 j1 => ?_))
      rw [if_pos (by omega), show k = n by omega]
    · have e := hs.1
      have hp : posS (bgS fun j => if j < k then bdS T k.toNat j else T j) (T k).b k.toNat = posS (bgS (bdS T k.toNat)) (T k).b k.toNat := posS_congr (fun j j0 j1 => by
        show Sb.b (if j < k then bdS T k.toNat j else T j) = (bdS T k.toNat j).b
        rw [if_pos (by omega)])
      have hl := posS_le (bgS (bdS T k.toNat)) (T k).b k.toNat
      refine settle_sp hs hn ht (by omega) (by omega) (fun c' hf2 hT => ⟨rgO (by omega) (by omega), ih (k + 1) _ ⟨by omega, by omega, hf.trans hf2, hT.congr (fun j j0 j1 => ?_)⟩ (by omega)⟩)
      rw [if_neg (by omega : ¬ k < k), hp, bdS_succ T (by omega)]
      generalize posS (bgS (bdS T k.toNat)) (T k).b k.toNat = w at hl
      by_cases e1 : j < k + 1
      · rw [if_pos e1]
        unfold mvS insF
        rw [if_pos (by omega)]
        by_cases e2 : j < (w : Int)
        · rw [if_pos e2, if_pos e2]
          exact if_pos (by omega)
        · rw [if_neg e2, if_neg e2]
          by_cases e3 : j = (w : Int)
          · rw [if_pos e3, if_pos e3]
            exact if_neg (by omega)
          · rw [if_neg e3, if_neg e3]
            exact if_pos (by omega)
      · rw [if_neg e1, mvS_hi (by omega), if_neg (by omega)]
  · by_cases e1 : j < 1
    · rw [if_pos e1, show j = 0 by omega]
      rfl
    · rw [if_neg e1]
theorem tBecome_sp {Q : Sg → Prop} (h : TrC c r n T) (hw : RowsC c q) (n0 : 0 ≤ n) (hn : n ≤ 16) (ht : trk q) (htr : trk r) (hd : q + 19 ≤ r ∨ r + 19 ≤ q) (hQ : ∀ c', frC c c' q (q + 18) → TrC c' q n T → Q c') : wp_X7_become q r c Q := by
  obtain ⟨t1, t2⟩ := ht
  have t3 := htr.1
  have t4 := htr.2
  rintro s0 rfl
  intro P hP
  refine lq2 (P := P) (fun k _ => (n - k).toNat) (fun k s => 0 ≤ k ∧ k ≤ n ∧ frC c s q (q + 18) ∧ gI s q 2 = n ∧ (∀ j, gR s (q + 1) j = gR c (q + 1) j) ∧ ∀ j, 0 ≤ j → j < k → SbC s (gR c (q + 1) j) (T j)) ?_ 0 _ ⟨by omega, n0, frC.sI (by omega) (by omega), by rw [gI_sI_self]; exact h.1, fun j => rfl, fun j j0 j1 => by omega⟩
  rintro k s ⟨k0, k1, hf, es, hg, hS⟩ ih
  refine hP k s ⟨fun z => ?_, fun z => ⟨k0, by omega, k0, by omega, ?_⟩⟩
  · refine hQ s hf ⟨es, hw.kept hg, fun j j0 j1 => ?_⟩
    rw [hg j]
    exact hS j j0 (by omega)
  · have hsrc := h.kept hn hf (by omega) (by omega) (by omega)
    have hk := hw.1 k k0 (by omega)
    have hr2 := hsrc.2.1.1 k k0 (by omega)
    rw [hg k]
    refine subBecome_sp (hsrc.2.2 k k0 (by omega)) (by omega) (by omega) (fun c' hf2 hS2 => ⟨rgO (by omega) (by omega), ih (k + 1) c' ⟨by omega, by omega, hf.trans (hf2.mono (by omega) (by omega)), ((hf2.1 q (by omega)).1 2).trans es, fun j => ((hf2.1 (q + 1) (by omega)).2 j).trans (hg j), fun j j0 j1 => ?_⟩ (by omega)⟩)
    by_cases e : j = k
    · rw [e]; exact hS2
    · have hj := hw.1 j j0 (by omega)
      have : gR c (q + 1) j ≠ gR c (q + 1) k := fun z => e (hw.2 j k j0 (by omega) k0 (by omega) z)
      exact (hS j j0 (by omega)).kept hf2 (by omega) (by omega) (by omega)
theorem TrC.len {i : Int} (h : TrC c q n T) (i0 : 0 ≤ i) (i1 : i < n) : gI c (gR c (q + 1) i) 0 = (T i).b ∧ gI c (gR c (q + 1) i) 1 = (T i).e ∧ gI c (gR c (q + 1) i) 2 = (T i).p := (h.2.2 i i0 i1).1
def lnS (T : Int → Sb) : Int → Int := fun j => (T j).e - (T j).b
theorem lnS_sum (hI : InvTr n T) {k : Int} (k0 : 0 ≤ k) (k1 : k ≤ n) : 0 ≤ smS (lnS T) k.toNat ∧ smS (lnS T) k.toNat ≤ 9999 * k := by
  have key : ∀ m : Nat, (m : Int) ≤ n → 0 ≤ smS (lnS T) m ∧ smS (lnS T) m ≤ 9999 * m := by
    intro m
    induction m with
    | zero => intro _; exact ⟨Int.le_refl _, by show (0 : Int) ≤ _; omega⟩
    | succ m ih =>
      intro hm
      have h1 := ih (by omega)
      have h2 := rgb (hI.2.2.1 m (by omega) (by omega))
      have e : smS (lnS T) (m + 1) = smS (lnS T) m + ((T m).e - (T m).b) := rfl
      rw [e]
      omega
  have := key k.toNat (by omega)
  rw [show ((k.toNat : Nat) : Int) = k by omega] at this
  exact this
theorem allLengths_sp {Q : Int → Prop} (h : TrC c q n T) (hI : InvTr n T) (hQ : Q (smS (lnS T) n.toNat)) : wp_X7_allLengths q c Q := by
  intro P hP
  have hn := hI.2.1
  refine lq2 (P := P) (fun _ k => (n - k).toNat) (fun u k => 0 ≤ k ∧ k ≤ n ∧ u = smS (lnS T) k.toNat) ?_ 0 0 ⟨by omega, hI.1, rfl⟩
  rintro u k ⟨k0, k1, rfl⟩ ih
  have e := h.1
  refine hP _ k ⟨fun z => ?_, fun z => ⟨k0, by omega, length_sp (h.2.2 k k0 (by omega)) (hI.2.2.1 k k0 (by omega)) ?_⟩⟩
  · rw [show k = n by omega]; exact hQ
  · rintro w rfl
    have s1 := lnS_sum hI (k := k + 1) (by omega) (by omega)
    have e1 := smS_succ (lnS T) k0
    have e2 : lnS T k = (T k).e - (T k).b := rfl
    rw [e2] at e1
    exact ⟨rgO (by omega) (by omega), rgO (by omega) (by omega), ih _ (k + 1) ⟨by omega, by omega, e1.symm⟩ (by omega)⟩
def geS (T : Int → Sb) : Int → Int → Int := fun u k => max u (T k).e
theorem greatestEnd_sp {Q : Int → Prop} (h : TrC c q n T) (hI : InvTr n T) (hQ : Q (fdS (geS T) n.toNat)) : wp_X7_greatestEnd q c Q := by
  intro P hP
  have hn := hI.2.1
  refine lq2 (P := P) (fun _ k => (n - k).toNat) (fun u k => 0 ≤ k ∧ k ≤ n ∧ u = fdS (geS T) k.toNat) ?_ 0 0 ⟨by omega, hI.1, rfl⟩
  rintro u k ⟨k0, k1, rfl⟩ ih
  have e := h.1
  refine hP _ k ⟨fun z => ?_, fun z => ⟨k0, by omega, ?_⟩⟩
  · rw [show k = n by omega]; exact hQ
  · rintro w rfl
    rw [(h.len k0 (by omega)).2.1]
    exact ⟨rgO (by omega) (by omega), ih _ (k + 1) ⟨by omega, by omega, (fdS_succ (geS T) k0).symm⟩ (by omega)⟩
def cpS (T : Int → Sb) : Int → Int → Int := fun u k => if (T k).p = 2 then u + 1 else u
theorem cpS_rg (T : Int → Sb) (m : Nat) : 0 ≤ fdS (cpS T) m ∧ fdS (cpS T) m ≤ m := by
  induction m with
  | zero => exact ⟨Int.le_refl _, Int.le_refl _⟩
  | succ m ih =>
    have e : fdS (cpS T) (m + 1) = if (T (m : Int)).p = 2 then fdS (cpS T) m + 1 else fdS (cpS T) m := rfl
    rw [e]
    split <;> omega
theorem countPairs_sp {Q : Int → Prop} (h : TrC c q n T) (n0 : 0 ≤ n) (hn : n ≤ 16) (hQ : Q (fdS (cpS T) n.toNat)) : wp_X7_countPairs q c Q := by
  intro P hP
  refine lq2 (P := P) (fun _ k => (n - k).toNat) (fun u k => 0 ≤ k ∧ k ≤ n ∧ u = fdS (cpS T) k.toNat) ?_ 0 0 ⟨by omega, n0, rfl⟩
  rintro u k ⟨k0, k1, rfl⟩ ih
  have e := h.1
  refine hP _ k ⟨fun z => ?_, fun z => ⟨k0, by omega, ?_⟩⟩
  · rw [show k = n by omega]; exact hQ
  · rw [(h.len k0 (by omega)).2.2]
    have e1 := fdS_succ (cpS T) k0
    have b := cpS_rg T k.toNat
    refine ⟨fun y => ⟨rgO (by omega) (by omega), rgO (by omega) (by omega), ih _ (k + 1) ⟨by omega, by omega, ?_⟩ (by omega)⟩, fun y => ⟨rgO (by omega) (by omega), ih _ (k + 1) ⟨by omega, by omega, ?_⟩ (by omega)⟩⟩
    · rw [e1]; exact (if_pos y).symm
    · rw [e1]; exact (if_neg y).symm
def shwS (T : Int → Sb) (x : Int) : Int → Int → Int := fun u k => if (T k).b ≤ x ∧ x < (T k).e then jOr u (jShl 1 k) else u
theorem shownAt_sp {x : Int} {Q : Int → Prop} (h : TrC c q n T) (n0 : 0 ≤ n) (hn : n ≤ 16) (hQ : Q (fdS (shwS T x) n.toNat)) : wp_X7_shownAt q x c Q := by
  intro P hP
  refine lq2 (P := P) (fun _ k => (n - k).toNat) (fun u k => 0 ≤ k ∧ k ≤ n ∧ u = fdS (shwS T x) k.toNat) ?_ 0 0 ⟨by omega, n0, rfl⟩
  rintro u k ⟨k0, k1, rfl⟩ ih
  have e := h.1
  refine hP _ k ⟨fun z => ?_, fun z => ⟨k0, by omega, ?_⟩⟩
  · rw [show k = n by omega]; exact hQ
  · rw [(h.len k0 (by omega)).1, (h.len k0 (by omega)).2.1]
    have e1 := fdS_succ (shwS T x) k0
    have skip : ¬ ((T k).b ≤ x ∧ x < (T k).e) → wj_X7_shownAt_44 P q x (fdS (shwS T x) k.toNat) k c Q := fun y => ⟨rgO (by omega) (by omega), ih _ (k + 1) ⟨by omega, by omega, by rw [e1]; exact (if_neg y).symm⟩ (by omega)⟩
    refine ⟨fun y => skip (by omega), fun y => ⟨k0, by omega, fun y2 => skip (by omega), fun y2 => ?_⟩⟩
    rintro w rfl
    exact ⟨rgO (by omega) (by omega), ih _ (k + 1) ⟨by omega, by omega, by rw [e1]; exact (if_pos ⟨by omega, by omega⟩).symm⟩ (by omega)⟩
end TRACK2
/-! STATES: pieces, shot changes, settings, subtitles -/
def St : Type := (Int × (Int → Int) × (Int → Int)) × (Int × (Int → Int)) × (Int → Int) × Int × (Int → Sb)
def mkA (pn : Int) (F L : Int → Int) (sn : Int) (f v : Int → Int) (tn : Int) (T : Int → Sb) : St := ((pn, F, L), (sn, f), v, tn, T)
def St.pn (A : St) : Int := A.1.1
def St.F (A : St) : Int → Int := A.1.2.1
def St.L (A : St) : Int → Int := A.1.2.2
def St.sn (A : St) : Int := A.2.1.1
def St.f (A : St) : Int → Int := A.2.1.2
def St.v (A : St) : Int → Int := A.2.2.1
def St.tn (A : St) : Int := A.2.2.2.1
def St.T (A : St) : Int → Sb := A.2.2.2.2
def InvSt (A : St) : Prop := InvCu A.pn A.F A.L ∧ InvSh A.sn A.f ∧ InvSe A.v ∧ InvTr A.tn A.T
/-- the class's state at q -/
def StC (c : Sg) (q : Nat) (A : St) : Prop := CuC c (q + 1) A.pn A.F A.L ∧ ShC c (q + 4) A.sn A.f ∧ SeC c (q + 6) A.v ∧ TrC c (q + 8) A.tn A.T
def sta (q : Nat) : Prop := 4 ≤ q ∧ q + 27 ≤ 279
theorem sta.trk {q : Nat} (h : sta q) : trk (q + 8) := ⟨by have := h.1; omega, by have := h.2; omega⟩
theorem StC.kept {c c' : Sg} {q : Nat} {A : St} (h : StC c q A) (hI : InvSt A) {lo hi : Nat} (hf : frC c c' lo hi) (h4 : 4 ≤ lo ∨ hi ≤ 2) (h9 : hi ≤ 279) (hd : hi ≤ q ∨ q + 27 ≤ lo) : StC c' q A :=
  ⟨h.1.kept hf (by omega), h.2.1.kept hf (by omega), h.2.2.1.kept hf (by omega), h.2.2.2.kept hI.2.2.2.2.1 hf h4 h9 (by omega)⟩
def rdS (v : Int → Int) (S : Sb) : Int := max (v 1) (v 0 * chS S)
theorem rdS_rg {v : Int → Int} {S : Sb} (hv : InvSe v) (hI : InvSb S) : 1 ≤ v 0 * chS S ∧ v 0 * chS S ≤ 1680 ∧ 1 ≤ rdS v S ∧ rdS v S ≤ 1680 := by
  have h1 := hv.rg
  have h2 := chS_rg hI
  have a : v 0 * chS S ≤ 20 * 84 := Int.mul_le_mul (by omega) h2.2 (by omega) (by omega)
  have b : 1 * 1 ≤ v 0 * chS S := Int.mul_le_mul (by omega) h2.1 (by omega) (by omega)
  unfold rdS
  omega
def ltS (v : Int → Int) (n : Int) (T : Int → Sb) (i : Int) : Int := if nxS n T i = -9 then 9999 else (T (nxS n T i)).b - v 2
abbrev offS (n : Int) (f : Int → Int) (r x : Int) : Prop := ¬ (nrS n f x r = -9 ∨ nrS n f x r = x)
def ftS (A : St) (i : Int) : Int :=
  (if (A.T i).e - (A.T i).b < rdS A.v (A.T i) then 1 else 0) + (if ltS A.v A.tn A.T i < (A.T i).e then 2 else 0) + (if shS A.tn (bgS A.T) i then 4 else 0)
  + (if offS A.sn A.f (A.v 3) (A.T i).b ∨ offS A.sn A.f (A.v 3) (A.T i).e then 8 else 0) + (if swS (A.T i) (A.v 4) then 16 else 0) + (if smS A.L A.pn.toNat < (A.T i).e then 32 else 0)
theorem ftS_rg (A : St) (i : Int) : 0 ≤ ftS A i ∧ ftS A i ≤ 63 := by
  unfold ftS
  have h1 : ∀ (p : Prop) [Decidable p] (x : Int), 0 ≤ x → 0 ≤ (if p then x else 0) ∧ (if p then x else 0) ≤ x := fun p _ x hx => by split <;> omega
  have a1 := h1 ((A.T i).e - (A.T i).b < rdS A.v (A.T i)) 1 (by omega)
  have a2 := h1 (ltS A.v A.tn A.T i < (A.T i).e) 2 (by omega)
  have a3 := h1 (shS A.tn (bgS A.T) i) 4 (by omega)
  have a4 := h1 (offS A.sn A.f (A.v 3) (A.T i).b ∨ offS A.sn A.f (A.v 3) (A.T i).e) 8 (by omega)
  have a5 := h1 (swS (A.T i) (A.v 4)) 16 (by omega)
  have a6 := h1 (smS A.L A.pn.toNat < (A.T i).e) 32 (by omega)
  omega
def cfS (A : St) (w : Int) : Int → Int → Int := fun u k => if jAnd (ftS A k) w = 0 then u else u + 1
theorem cfS_rg (A : St) (w : Int) (m : Nat) : 0 ≤ fdS (cfS A w) m ∧ fdS (cfS A w) m ≤ m := by
  induction m with
  | zero => exact ⟨Int.le_refl _, Int.le_refl _⟩
  | succ m ih =>
    have e : fdS (cfS A w) (m + 1) = if jAnd (ftS A (m : Int)) w = 0 then fdS (cfS A w) m else fdS (cfS A w) m + 1 := rfl
    rw [e]
    split <;> omega
section STATES
variable {c : Sg} {q r : Nat} {A : St}
theorem reading_sp {S : Sb} {Q : Int → Prop} (h : StC c q A) (hI : InvSt A) (hS : SbC c r S) (hIS : InvSb S) (hQ : Q (rdS A.v S)) : wp_X5_readingLength q r c Q := by
  have b := rdS_rg hI.2.2.1 hIS
  refine setAt_sp h.2.2.1 (by omega) (by omega) (characters_sp hS hIS ?_)
  rintro w rfl
  exact ⟨rgO (by omega) (by omega), setAt_sp h.2.2.1 (by omega) (by omega) hQ⟩
theorem latestEnd_sp {i : Int} {Q : Int → Prop} (h : StC c q A) (hI : InvSt A) (i0 : 0 ≤ i) (i1 : i < A.tn) (hQ : Q (ltS A.v A.tn A.T i)) : wp_X5_latestEnd q i c Q := by
  have hn := hI.2.2.2.2.1
  have hb := nxS_rg (n := A.tn) (T := A.T) i0 i1
  unfold ltS at hQ
  refine next_sp h.2.2.2 hn i0 i1 ⟨fun z => ?_, fun z => tAt_sp h.2.2.2.1 hn (by omega) (by omega) (setAt_sp h.2.2.1 (by omega) (by omega) ?_)⟩
  · rw [if_pos z] at hQ; exact hQ
  · rw [if_neg z] at hQ
    rw [(h.2.2.2.2.2 _ (by omega) (by omega)).1.1]
    have b1 := rgb (hI.2.2.2.2.2.1 (nxS A.tn A.T i) (by omega) (by omega))
    have b2 := hI.2.2.1.rg
    exact ⟨rgO (by omega) (by omega), hQ⟩
theorem faultsOf_sp {i : Int} {Q : Int → Prop} (h : StC c q A) (hI : InvSt A) (i0 : 0 ≤ i) (i1 : i < A.tn) (hQ : Q (ftS A i)) : wp_X5_faultsOf q i c Q := by
  have hn := hI.2.2.2.2.1
  have hS := h.2.2.2.2.2 i i0 i1
  have hIS := hI.2.2.2.2.2.1 i i0 i1
  have b := rgb hIS
  have bv := hI.2.2.1.rg
  unfold ftS at hQ
  have d6 : ∀ u, 0 ≤ u → u ≤ 31 → Q (u + if smS A.L A.pn.toNat < (A.T i).e then 32 else 0) → wj_X5_faultsOf_116 q (gR c (q + 8 + 1) i) u c Q := fun u u0 u1 hu => by
    refine frames_sp h.1 hI.1 ?_
    rw [hS.1.2.1]
    refine ⟨fun z => ?_, fun z => ⟨rgO (by omega) (by omega), ?_⟩⟩
    · rw [if_neg (by omega), Int.add_zero] at hu; exact hu
    · rw [if_pos (by omega)] at hu; exact hu
  have d5 : ∀ u, 0 ≤ u → u ≤ 15 → Q (u + (if swS (A.T i) (A.v 4) then 16 else 0) + if smS A.L A.pn.toNat < (A.T i).e then 32 else 0) → wj_X5_faultsOf_98 q (gR c (q + 8 + 1) i) u c Q := fun u u0 u1 hu => by
    refine setAt_sp h.2.2.1 (by omega) (by omega) (subWide_sp hS hIS (by omega) (by omega) (fun z => ⟨fun y => by omega, fun _ => ⟨rgO (by omega) (by omega), d6 _ (by omega) (by omega) ?_⟩⟩) (fun z => ⟨fun _ => d6 _ u0 (by omega) ?_, fun y => absurd rfl y⟩))
    · rw [if_pos z] at hu; exact hu
    · rw [if_neg z, Int.add_zero] at hu; exact hu
  have d4 : ∀ u, 0 ≤ u → u ≤ 7 → Q (u + (if offS A.sn A.f (A.v 3) (A.T i).b ∨ offS A.sn A.f (A.v 3) (A.T i).e then 8 else 0) + (if swS (A.T i) (A.v 4) then 16 else 0) + if smS A.L A.pn.toNat < (A.T i).e then 32 else 0) → wj_X5_faultsOf_65 q (gR c (q + 8 + 1) i) (A.v 3) u c Q := fun u u0 u1 hu => by
    have yes : (offS A.sn A.f (A.v 3) (A.T i).b ∨ offS A.sn A.f (A.v 3) (A.T i).e) → wj_X5_faultsOf_95 q (gR c (q + 8 + 1) i) u c Q := fun z => by
      rw [if_pos z] at hu
      exact ⟨rgO (by omega) (by omega), d5 _ (by omega) (by omega) hu⟩
    refine isMissed_sp h.2.1 hI.2.1 (by rw [hS.1.1]; omega) (by rw [hS.1.1]; omega) (by omega) (by omega) ?_
    rw [hS.1.1]
    split
    · rename_i hw
      refine ⟨fun _ => isMissed_sp h.2.1 hI.2.1 (by rw [hS.1.2.1]; omega) (by rw [hS.1.2.1]; omega) (by omega) (by omega) ?_, fun z => absurd rfl z⟩
      rw [hS.1.2.1]
      split
      · rename_i hw2
        refine ⟨fun _ => d5 u u0 (by omega) ?_, fun z => absurd rfl z⟩
        rw [if_neg (fun z => z.elim (fun y => y hw) (fun y => y hw2)), Int.add_zero] at hu
        exact hu
      · rename_i hw2
        exact ⟨fun z => by omega, fun _ => yes (Or.inr hw2)⟩
    · rename_i hw
      exact ⟨fun z => by omega, fun _ => yes (Or.inl hw)⟩
  have d3 : ∀ u, 0 ≤ u → u ≤ 3 → Q (u + (if shS A.tn (bgS A.T) i then 4 else 0) + (if offS A.sn A.f (A.v 3) (A.T i).b ∨ offS A.sn A.f (A.v 3) (A.T i).e then 8 else 0) + (if swS (A.T i) (A.v 4) then 16 else 0) + if smS A.L A.pn.toNat < (A.T i).e then 32 else 0) → wj_X5_faultsOf_51 q i (gR c (q + 8 + 1) i) (A.v 3) u c Q := fun u u0 u1 hu => by
    refine shares_sp h.2.2.2 hn i0 i1 (fun z => ⟨fun y => by omega, fun _ => ⟨rgO (by omega) (by omega), d4 _ (by omega) (by omega) ?_⟩⟩) (fun z => ⟨fun _ => d4 u u0 (by omega) ?_, fun y => absurd rfl y⟩)
    · rw [if_pos z] at hu; exact hu
    · rw [if_neg z, Int.add_zero] at hu; exact hu
  have d2 : ∀ u, 0 ≤ u → u ≤ 1 → Q (u + (if ltS A.v A.tn A.T i < (A.T i).e then 2 else 0) + (if shS A.tn (bgS A.T) i then 4 else 0) + (if offS A.sn A.f (A.v 3) (A.T i).b ∨ offS A.sn A.f (A.v 3) (A.T i).e then 8 else 0) + (if swS (A.T i) (A.v 4) then 16 else 0) + if smS A.L A.pn.toNat < (A.T i).e then 32 else 0) → wj_X5_faultsOf_36 q i (gR c (q + 8 + 1) i) (A.v 3) u c Q := fun u u0 u1 hu => by
    refine latestEnd_sp h hI i0 i1 ?_
    rw [hS.1.2.1]
    refine ⟨fun z => d3 u u0 (by omega) ?_, fun z => ⟨rgO (by omega) (by omega), d3 _ (by omega) (by omega) ?_⟩⟩
    · rw [if_neg (by omega), Int.add_zero] at hu; exact hu
    · rw [if_pos (by omega)] at hu; exact hu
  refine tAt_sp h.2.2.2.1 hn i0 i1 (setAt_sp h.2.2.1 (by omega) (by omega) (length_sp hS hIS (reading_sp h hI hS hIS ⟨fun z => d2 0 (by omega) (by omega) ?_, fun z => ⟨rgO (by omega) (by omega), d2 _ (by omega) (by omega) ?_⟩⟩)))
  · rw [if_neg (by omega)] at hQ; exact hQ
  · rw [if_pos (by omega)] at hQ; exact hQ
theorem countFaulty_sp {x : Int} {Q : Int → Prop} (h : StC c q A) (hI : InvSt A) (hQ : Q (fdS (cfS A (if x = 0 then -1 else x)) A.tn.toNat)) : wp_X5_countFaulty q x c Q := by
  have hn := hI.2.2.2.2.1
  have key : ∀ w, Q (fdS (cfS A w) A.tn.toNat) → wj_X5_countFaulty_9 q w c Q := fun w hQ => by
    intro P hP
    refine lq2 (P := P) (fun _ k => (A.tn - k).toNat) (fun u k => 0 ≤ k ∧ k ≤ A.tn ∧ u = fdS (cfS A w) k.toNat) ?_ 0 0 ⟨by omega, hI.2.2.2.1, rfl⟩
    rintro u k ⟨k0, k1, rfl⟩ ih
    have e := h.2.2.2.1
    refine hP _ k ⟨fun z => ?_, fun z => faultsOf_sp h hI k0 (by omega) ?_⟩
    · rw [show k = A.tn by omega]; exact hQ
    · have e1 := fdS_succ (cfS A w) k0
      have b := cfS_rg A w k.toNat
      refine ⟨fun y => ⟨rgO (by omega) (by omega), ih _ (k + 1) ⟨by omega, by omega, ?_⟩ (by omega)⟩, fun y => ⟨rgO (by omega) (by omega), rgO (by omega) (by omega), ih _ (k + 1) ⟨by omega, by omega, ?_⟩ (by omega)⟩⟩
      · rw [e1]; exact (if_pos y).symm
      · rw [e1]; exact (if_neg y).symm
  refine ⟨fun z => key _ ?_, fun z => key _ ?_⟩
  · rw [if_pos z] at hQ; exact hQ
  · rw [if_neg z] at hQ; exact hQ
theorem stBecome_sp {Q : Sg → Prop} (h : StC c r A) (hI : InvSt A) (hw : RowsC c (q + 8)) (hq : sta q) (hr : sta r) (hd : q + 27 ≤ r ∨ r + 27 ≤ q) (hQ : ∀ c', frC c c' q (q + 27) → StC c' q A → Q c') : wp_X5_become q r c Q := by
  obtain ⟨q1, q2⟩ := hq
  obtain ⟨r1, r2⟩ := hr
  refine cutBecome_sp h.1 hI.1.2.1 (by omega) (fun c1 hf1 h1 => ?_)
  have g1 := h.kept hI hf1 (by omega) (by omega) (by omega)
  refine shotsBecome_sp g1.2.1 hI.2.1.2.1 (by omega) (fun c2 hf2 h2 => ?_)
  have g2 := g1.kept hI hf2 (by omega) (by omega) (by omega)
  refine setBecome_sp g2.2.2.1 (by omega) (fun c3 hf3 h3 => ?_)
  have g3 := g2.kept hI hf3 (by omega) (by omega) (by omega)
  have hw3 : RowsC c3 (q + 8) := hw.kept (fun j => (((hf3.1 (q + 8 + 1) (by omega)).2 j).trans ((hf2.1 (q + 8 + 1) (by omega)).2 j)).trans ((hf1.1 (q + 8 + 1) (by omega)).2 j))
  refine tBecome_sp g3.2.2.2 hw3 hI.2.2.2.1 hI.2.2.2.2.1 ⟨by omega, by omega⟩ ⟨by omega, by omega⟩ (by omega) (fun c4 hf4 h4 => ?_)
  refine hQ c4 (((hf1.mono (by omega) (by omega)).trans (hf2.mono (by omega) (by omega))).trans ((hf3.mono (by omega) (by omega)).trans (hf4.mono (by omega) (by omega)))) ⟨?_, ?_, ?_, h4⟩
  · exact ((h1.kept hf2 (by omega)).kept hf3 (by omega)).kept hf4 (by omega)
  · exact (h2.kept hf3 (by omega)).kept hf4 (by omega)
  · exact h3.kept hf4 (by omega)
end STATES
