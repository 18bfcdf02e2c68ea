/-! the law: faults, the whole -/
section LAW5
variable {c : Sg} {W : Wd}
/-- the row 281 is none of the class's -/
theorem ClC.y {c' : Sg} (h : ClC c W) (hI : InvW W) (hi : ∀ a, a ≠ 281 → ∀ j, gI c' a j = gI c a j) (hr : ∀ a j, gR c' a j = gR c a j) (hl : ∀ a, gL c' a = gL c a) : ClC c' W := by
  have st : ∀ {q : Nat} {A : St}, StC c q A → InvSt A → q + 27 ≤ 279 → StC c' q A := fun {q A} h hA hq => by
    obtain ⟨⟨a1, a2⟩, ⟨b1, b2⟩, c1, d1, d2, d3⟩ := h
    have pt : ∀ {r : Nat} {p : Pt}, pcl r → PtC c r p → PtC c' r p := fun ho ⟨g1, g2, g3⟩ => by
      unfold pcl at ho
      exact ⟨(hi _ (by omega) _).trans g1, (hl _).trans g2, fun k k0 k1 => (hi _ (by omega) _).trans (g3 k k0 k1)⟩
    refine ⟨⟨(hi _ (by omega) _).trans a1, fun p p0 p1 => ⟨(hi _ (by omega) _).trans (a2 p p0 p1).1, (hi _ (by omega) _).trans (a2 p p0 p1).2⟩⟩, ⟨(hi _ (by omega) _).trans b1, fun p p0 p1 => (hi _ (by omega) _).trans (b2 p p0 p1)⟩, fun p p0 p1 => (hi _ (by omega) _).trans (c1 p p0 p1), (hi _ (by omega) _).trans d1, d2.kept (fun j => hr _ j), fun j j0 j1 => ?_⟩
    have hb := d2.1 j j0 (by have := hA.2.2.2.2.1; omega)
    rw [hr]
    obtain ⟨⟨k1, k2, k3⟩, ⟨ka, kb⟩, kc⟩ := d3 j j0 j1
    refine ⟨⟨(hi _ (by omega) _).trans k1, (hi _ (by omega) _).trans k2, (hi _ (by omega) _).trans k3⟩, ⟨?_, ?_⟩, fun z => ⟨?_, ?_⟩⟩
    · rw [hr]; exact ka
    · rw [hr]; exact pt ka kb
    · rw [hr]; exact (kc z).1
    · rw [hr]; exact pt (kc z).1 (kc z).2
  obtain ⟨g1, g2, ⟨g3, g4⟩, g5, g6, g8⟩ := h
  have n8 := hI.2.2.2.1
  refine ⟨st g1 hI.1 (by omega), g2.kept (fun j => hr _ j), ⟨(hi _ (by omega) _).trans g3, fun j j0 j1 => (hi _ (by omega) _).trans (g4 j j0 j1)⟩, (hi _ (by omega) _).trans g5, g6.kept (fun j => hr _ j) (fun q _ j => hr _ j), fun k k0 k1 => ?_⟩
  rw [hr]
  have := (g6.1 (W.hn - 1 - k) (by omega) (by omega)).1.ge
  exact st (g8 k k0 k1) (hI.2.2.2.2 k k0 k1) (by omega)
theorem ClC.nm (h : ClC c W) (hI : InvW W) : ClC (nmP c) W := h.y hI (fun a ha j => if_neg ha) (fun _ _ => rfl) (fun _ => rfl)
theorem ClC.ys (h : ClC c W) (hI : InvW W) (j v : Int) : ClC (sI c 281 j v) W := h.y hI (fun a ha b => gI_sI_ne ha) (fun _ _ => rfl) (fun _ => rfl)
end LAW5
theorem bit6 : ∀ n : Fin 64, ∀ k : Fin 6, jAnd (jShr (n.val : Int) (k.val : Int)) 1 = if jAnd (n.val : Int) (jShl 1 (k.val : Int)) = 0 then 0 else 1 := by decide +kernel
theorem bitA : ∀ n : Fin 64, jAnd (n.val : Int) (-1) = (n.val : Int) := by decide +kernel
theorem bit_ft {x k : Int} (x0 : 0 ≤ x) (x1 : x ≤ 63) (k0 : 0 ≤ k) (k1 : k < 6) : jAnd (jShr x k) 1 = if jAnd x (jShl 1 k) = 0 then 0 else 1 := by
  have := bit6 ⟨x.toNat, by omega⟩ ⟨k.toNat, by omega⟩
  simp only at this
  rw [show ((x.toNat : Nat) : Int) = x by omega, show ((k.toNat : Nat) : Int) = k by omega] at this
  exact this
theorem bit_all {x : Int} (x0 : 0 ≤ x) (x1 : x ≤ 63) : jAnd x (-1) = x := by
  have := bitA ⟨x.toNat, by omega⟩
  simp only at this
  rw [show ((x.toNat : Nat) : Int) = x by omega] at this
  exact this
/-- how many of the first i have the fault k; at 6: any fault -/
def mnS (A : St) (k i : Int) : Int := fdS (cfS A (if k = 6 then -1 else jShl 1 k)) i.toNat
theorem mnS_0 (A : St) (k : Int) : mnS A k 0 = 0 := rfl
theorem mnS_rg (A : St) (k : Int) {i : Int} (i0 : 0 ≤ i) (i1 : i ≤ 16) : 0 ≤ mnS A k i ∧ mnS A k i ≤ 16 := by
  have := cfS_rg A (if k = 6 then -1 else jShl 1 k) i.toNat
  unfold mnS
  omega
theorem mnS_up {A : St} {k i : Int} (k0 : 0 ≤ k) (k1 : k < 6) (i0 : 0 ≤ i) : mnS A k (i + 1) = mnS A k i + jAnd (jShr (ftS A i) k) 1 := by
  have hr := ftS_rg A i
  unfold mnS
  rw [fdS_succ _ i0, bit_ft hr.1 hr.2 k0 k1, if_neg (by omega)]
  unfold cfS
  split <;> omega
theorem mnS_up6 {A : St} {i : Int} (i0 : 0 ≤ i) : mnS A 6 (i + 1) = mnS A 6 i + (if ftS A i ≤ 0 then 0 else 1) := by
  have hr := ftS_rg A i
  unfold mnS
  rw [fdS_succ _ i0, if_pos rfl]
  unfold cfS
  rw [bit_all hr.1 hr.2]
  by_cases e : ftS A i = 0
  · rw [if_pos e, if_pos (by omega), Int.add_zero]
  · rw [if_neg e, if_neg (by omega)]
theorem faultsQ_k {A : St} {k : Int} (k0 : 0 ≤ k) (k1 : k < 6) : faultsQ A (jShl 1 k) = mnS A k A.tn := by
  have hc : k = 0 ∨ k = 1 ∨ k = 2 ∨ k = 3 ∨ k = 4 ∨ k = 5 := by omega
  unfold faultsQ mnS
  rw [if_neg (by omega : ¬ k = 6)]
  rcases hc with rfl | rfl | rfl | rfl | rfl | rfl
  · rw [if_neg (by decide), if_neg (by decide)]
  · rw [if_neg (by decide), if_neg (by decide)]
  · rw [if_neg (by decide), if_neg (by decide)]
  · rw [if_neg (by decide), if_neg (by decide)]
  · rw [if_neg (by decide), if_neg (by decide)]
  · rw [if_neg (by decide), if_neg (by decide)]
theorem faultsQ_0 {A : St} : faultsQ A 0 = mnS A 6 A.tn := by
  unfold faultsQ mnS
  rw [if_neg (by decide), if_pos rfl, if_pos rfl]
theorem faultsQ_3 {A : St} : faultsQ A 3 = -1 := by
  unfold faultsQ
  rw [if_pos (by decide)]
section LAW6
variable {c : Sg} {W : Wd}
/-- the end of the law's faults: what was counted is what faults() tells -/
theorem faultsE_sp (h : ClC c W) (hI : InvW W) (hm : ∀ k, 0 ≤ k → k < 6 → gI c 281 k = mnS W.A k W.A.tn) {Q : Int → Sg → Prop} (hQ : Q 1 c) : wj_L_faults_331 1 c Q := by
  intro P hP
  refine lq2 (P := P) (fun _ k => (6 - k).toNat) (fun x k => x = 1 ∧ 0 ≤ k ∧ k ≤ 6) ?_ 1 0 ⟨rfl, by omega, by omega⟩
  rintro x k ⟨rfl, k0, k1⟩ ih
  refine hP 1 k ⟨fun z => ⟨fun y => absurd y (by decide), fun _ => c_faults h hI ?_⟩, fun z => ⟨fun y => absurd y (by decide), fun _ => c_faults h hI ?_⟩⟩
  · rw [faultsQ_3]
    exact ⟨fun _ => hQ, fun y => absurd rfl y⟩
  · rw [faultsQ_k k0 (by omega), hm k k0 (by omega)]
    exact ⟨k0, by omega, fun _ => ⟨rgO (by omega) (by omega), ih 1 (k + 1) ⟨rfl, by omega, by omega⟩ (by omega)⟩, fun y => absurd rfl y⟩
theorem faults_law (h : ClC c W) (hI : InvW W) {Q : Int → Sg → Prop} (hQ : ∀ c', ClC c' W → Q 1 c') : wp_L_faults c Q := by
  obtain ⟨n0, n1, nS, nO⟩ := hI.1.2.2.2
  have hv := hI.1.2.2.1.rg
  show wp_L_faults_4 (nmP c) Q
  intro P hP
  refine lq2 (P := P) (fun i _ => (W.A.tn - i).toNat) (fun i t => 0 ≤ i ∧ i ≤ W.A.tn ∧ ClC t W ∧ ∀ k, 0 ≤ k → k < 7 → gI t 281 k = mnS W.A k i) ?_ 0 (nmP c) ⟨by omega, n0, h.nm hI, fun k k0 k1 => (if_pos rfl : (if (281 : Nat) = 281 then (0 : Int) else c.1 281 k) = 0)⟩
  rintro i t ⟨i0, i1, ht, hm⟩ ih
  refine hP i t (c_told ht hI ?_)
  rw [told_8]
  refine ⟨fun z => c_faults ht hI ?_, fun z => c_subtitle ht hI ?_⟩
  · have ei : i = W.A.tn := by omega
    rw [faultsQ_0, hm 6 (by omega) (by omega), ei]
    refine ⟨by omega, by omega, fun _ => faultsE_sp ht hI (fun k k0 k1 => ?_) (hQ t ht), fun y => absurd rfl y⟩
    rw [hm k k0 (by omega), ei]
  have i2 : i < W.A.tn := by omega
  have hS := nS i i0 i2
  have hb := hS.1
  have hbe := hS.2.1
  have he := hS.2.2.1
  have s0 : subQ W.A i 0 = (W.A.T i).b := subQ_0 i0 i2
  have s1 : subQ W.A i 1 = (W.A.T i).e := subQ_1 i0 i2
  have hft := ftS_rg W.A i
  rw [s1]
  refine c_subtitle ht hI ?_
  rw [s0]
  intro x3 e3
  refine ⟨rgO (by omega) (by omega), c_subtitle ht hI ?_⟩
  rw [subQ_6 i0 i2]
  -- the count goes on
  have f245 : ∀ a b, b + a = ftS W.A i → wj_L_faults_245 P i a b t Q := fun a b eab => by
    intro x6 e6
    have e6 : x6 = ftS W.A i := by omega
    refine ⟨rgO (by omega) (by omega), c_subtitle ht hI ?_⟩
    rw [subQ_5 i0 i2]
    refine ⟨fun _ P2 hP2 => ?_, fun y => absurd e6.symm y⟩
    refine lq2 (P := P2) (fun k _ => (6 - k).toNat) (fun k u => 0 ≤ k ∧ k ≤ 6 ∧ ClC u W ∧ (∀ j, 0 ≤ j → j < k → gI u 281 j = mnS W.A j (i + 1)) ∧ ∀ j, k ≤ j → j < 7 → gI u 281 j = mnS W.A j i) ?_ 0 t ⟨by omega, by omega, ht, fun j a b => by omega, fun j a b => hm j a b⟩
    rintro k u ⟨k0, k1, hu, hd, hr⟩ ih2
    have r1 : ∀ j, 0 ≤ mnS W.A j i ∧ mnS W.A j i ≤ 16 := fun j => mnS_rg W.A j i0 (by omega)
    refine hP2 k u ⟨fun y => ⟨by omega, by omega, ?_⟩, fun y => ⟨k0, by omega, k0, by omega, ?_⟩⟩
    · have last : ∀ d, mnS W.A 6 (i + 1) = mnS W.A 6 i + d → 0 ≤ d → d ≤ 1 → wj_L_faults_306 P i d (gI u 281 6) 6 u Q := fun d ed d0 d1 => by
        have := r1 6
        rw [hr 6 (by omega) (by omega)]
        refine ⟨by omega, by omega, rgO (by omega) (by omega), ?_⟩
        rintro u2 rfl
        refine ⟨rgO (by omega) (by omega), ih (i + 1) _ ⟨by omega, by omega, hu.ys hI _ _, fun j j0 j1 => ?_⟩ (by omega)⟩
        by_cases ej : j = 6
        · rw [ej, gI_sI_self, ed]
        · rw [gI_sI_nj ej]
          exact hd j j0 (by omega)
      have u6 := mnS_up6 (A := W.A) i0
      refine ⟨fun w => last 0 ?_ (by omega) (by omega), fun w => last 1 ?_ (by omega) (by omega)⟩
      · rw [u6, if_pos (by omega)]
      · rw [u6, if_neg (by omega)]
    · have hup := mnS_up (A := W.A) k0 (by omega : k < 6) i0
      have hj := jAnd_rg (m := 1) (by omega) (by omega) (jShr (ftS W.A i) k)
      have := r1 k
      rw [hr k (Int.le_refl _) (by omega), e6]
      refine ⟨rgO (by omega) (by omega), ?_⟩
      rintro u2 rfl
      refine ⟨rgO (by omega) (by omega), ih2 (k + 1) _ ⟨by omega, by omega, hu.ys hI _ _, fun j j0 j1 => ?_, fun j j0 j1 => ?_⟩ (by omega)⟩
      · by_cases ej : j = k
        · rw [ej, gI_sI_self, hup]
        · rw [gI_sI_nj ej]
          exact hd j j0 (by omega)
      · rw [gI_sI_nj (by omega)]
        exact hr j (by omega) j1
  -- the six parts of the sum
  have p01 : ∀ (p : Prop) [Decidable p] (x : Int), 0 ≤ x → 0 ≤ (if p then x else 0) ∧ (if p then x else 0) ≤ x := fun p _ x hx => by split <;> omega
  have hsum : ftS W.A i = (if (W.A.T i).e - (W.A.T i).b < rdS W.A.v (W.A.T i) then 1 else 0) + (if ltS W.A.v W.A.tn W.A.T i < (W.A.T i).e then 2 else 0) + (if shS W.A.tn (bgS W.A.T) i then 4 else 0)
    + (if offS W.A.sn W.A.f (W.A.v 3) (W.A.T i).b ∨ offS W.A.sn W.A.f (W.A.v 3) (W.A.T i).e then 8 else 0) + (if swS (W.A.T i) (W.A.v 4) then 16 else 0) + (if smS W.A.L W.A.pn.toNat < (W.A.T i).e then 32 else 0) := rfl
  have q1 := p01 ((W.A.T i).e - (W.A.T i).b < rdS W.A.v (W.A.T i)) 1 (by omega)
  have q2 := p01 (ltS W.A.v W.A.tn W.A.T i < (W.A.T i).e) 2 (by omega)
  have q4 := p01 (shS W.A.tn (bgS W.A.T) i) 4 (by omega)
  have q8 := p01 (offS W.A.sn W.A.f (W.A.v 3) (W.A.T i).b ∨ offS W.A.sn W.A.f (W.A.v 3) (W.A.T i).e) 8 (by omega)
  have q16 := p01 (swS (W.A.T i) (W.A.v 4)) 16 (by omega)
  have v1 : ∀ {p : Prop} [Decidable p] (x : Int), p → x = (if p then x else 0) := fun x hp => by rw [if_pos hp]
  have v0 : ∀ {p : Prop} [Decidable p] (x : Int), ¬ p → 0 = (if p then x else 0) := fun x hp => by rw [if_neg hp]
  generalize hg1 : (if (W.A.T i).e - (W.A.T i).b < rdS W.A.v (W.A.T i) then (1 : Int) else 0) = g1 at *
  generalize hg2 : (if ltS W.A.v W.A.tn W.A.T i < (W.A.T i).e then (2 : Int) else 0) = g2 at *
  generalize hg4 : (if shS W.A.tn (bgS W.A.T) i then (4 : Int) else 0) = g4 at *
  generalize hg8 : (if offS W.A.sn W.A.f (W.A.v 3) (W.A.T i).b ∨ offS W.A.sn W.A.f (W.A.v 3) (W.A.T i).e then (8 : Int) else 0) = g8 at *
  generalize hg16 : (if swS (W.A.T i) (W.A.v 4) then (16 : Int) else 0) = g16 at *
  have f219 : ∀ a b, b + a = g1 + g2 + g4 + g8 + g16 → wj_L_faults_219 P i a b t Q := fun a b eab => by
    intro x6 e6
    refine ⟨rgO (by omega) (by omega), c_subtitle ht hI ?_⟩
    rw [s1]
    refine c_told ht hI ?_
    rw [told_6]
    have ef : frS W.A = smS W.A.L W.A.pn.toNat := rfl
    refine ⟨fun y => f245 0 x6 ?_, fun y => f245 32 x6 ?_⟩
    · rw [hsum, if_neg (by omega)]
      omega
    · rw [hsum, if_pos (by omega)]
      omega
  have f200 : ∀ a b, b + a = g1 + g2 + g4 + g8 → wj_L_faults_200 P i a b t Q := fun a b eab => by
    intro x6 e6
    refine ⟨rgO (by omega) (by omega), tooWideL_sp i0 i2 ht hI ?_⟩
    by_cases e : swS (W.A.T i) (W.A.v 4)
    · rw [if_pos e] at hg16 ⊢
      exact ⟨fun y => absurd y (by decide), fun _ => f219 16 x6 (by omega)⟩
    · rw [if_neg e] at hg16 ⊢
      exact ⟨fun _ => f219 0 x6 (by omega), fun y => absurd rfl y⟩
  have f163 : ∀ a b, b + a = g1 + g2 + g4 → wj_L_faults_163 P i a b t Q := fun a b eab => by
    intro x6 e6
    refine ⟨rgO (by omega) (by omega), c_subtitle ht hI ?_⟩
    rw [s0]
    refine near_sp (by omega) (by omega) ht hI ?_
    by_cases eb : offS W.A.sn W.A.f (W.A.v 3) (W.A.T i).b
    · rw [if_pos (Or.inl eb)] at hg8
      rw [if_pos eb]
      exact ⟨fun y => absurd y (by decide), fun _ => f200 8 x6 (by omega)⟩
    · rw [if_neg eb]
      refine ⟨fun _ => c_subtitle ht hI ?_, fun y => absurd rfl y⟩
      rw [s1]
      refine near_sp (by omega) (by omega) ht hI ?_
      by_cases ee : offS W.A.sn W.A.f (W.A.v 3) (W.A.T i).e
      · rw [if_pos (Or.inr ee)] at hg8
        rw [if_pos ee]
        exact ⟨fun y => absurd y (by decide), fun _ => f200 8 x6 (by omega)⟩
      · rw [if_neg (fun z => z.elim eb ee)] at hg8
        rw [if_neg ee]
        exact ⟨fun _ => f200 0 x6 (by omega), fun y => absurd rfl y⟩
  -- x: does it share its first frame
  have f148 : ∀ x a b, (x ≠ 0 ↔ shS W.A.tn (bgS W.A.T) i) → b + a = g1 + g2 → wj_L_faults_148 P i x a b t Q := fun x a b hx eab => by
    intro x6 e6
    refine ⟨rgO (by omega) (by omega), fun y => f163 0 x6 ?_, fun y => f163 4 x6 ?_⟩
    · rw [if_neg (fun z => (hx.mpr z) y)] at hg4
      omega
    · rw [if_pos (hx.mp y)] at hg4
      omega
  have f112 : ∀ x b, (x ≠ 0 ↔ shS W.A.tn (bgS W.A.T) i) → b = g1 → wj_L_faults_112 P i (nxS W.A.tn W.A.T i) x b t Q := fun x b hx eb => by
    have hr := nxS_rg (n := W.A.tn) (T := W.A.T) i0 i2
    have hlt : ltS W.A.v W.A.tn W.A.T i = if nxS W.A.tn W.A.T i = -9 then 9999 else (W.A.T (nxS W.A.tn W.A.T i)).b - W.A.v 2 := rfl
    rcases hr with hr | ⟨h1, h2, h3⟩
    · rw [if_pos hr] at hlt
      refine ⟨fun _ => f148 x 0 b hx ?_, fun y => absurd y (by omega)⟩
      rw [if_neg (by omega)] at hg2
      omega
    · rw [if_neg (by omega)] at hlt
      have hnb := nS _ (by omega) h2
      refine ⟨fun y => absurd y (by omega), fun _ => c_subtitle ht hI ?_⟩
      rw [s1]
      refine c_subtitle ht hI ?_
      rw [subQ_0 (by omega) h2]
      refine c_told ht hI ?_
      rw [told_v (by omega) (by omega)]
      have hb9 := hnb.1
      have hb8 := hnb.2.1
      have hb7 := hnb.2.2.1
      refine ⟨rgO (by omega) (by omega), fun y => f148 x 0 b hx ?_, fun y => f148 x 2 b hx ?_⟩
      · rw [if_neg (by omega)] at hg2
        omega
      · rw [if_pos (by omega)] at hg2
        omega
  have f95 : ∀ x, (x ≠ 0 ↔ shS W.A.tn (bgS W.A.T) i) → wj_L_faults_95 P i x3 (nxS W.A.tn W.A.T i) x t Q := fun x hx => by
    refine c_subtitle ht hI ?_
    rw [subQ_4 i0 i2]
    refine ⟨fun y => f112 x 0 hx ?_, fun y => f112 x 1 hx ?_⟩
    · rw [if_neg (by omega)] at hg1
      exact hg1
    · rw [if_pos (by omega)] at hg1
      exact hg1
  have f61 : ¬ (0 < i ∧ bgS W.A.T (i - 1) = bgS W.A.T i) → wj_L_faults_61 P i x3 (nxS W.A.tn W.A.T i) t Q := fun g => by
    refine c_told ht hI ?_
    rw [told_8]
    have no : ¬ (i + 1 < W.A.tn ∧ bgS W.A.T (i + 1) = bgS W.A.T i) → wj_L_faults_94 P i x3 (nxS W.A.tn W.A.T i) t Q := fun g2 => f95 0 ⟨fun y => absurd rfl y, fun y => absurd y (fun y => y.elim g g2)⟩
    refine ⟨rgO (by omega) (by omega), fun y => no (fun z => by omega), fun y => ⟨rgO (by omega) (by omega), c_subtitle ht hI ?_⟩⟩
    rw [subQ_0 (by omega) (by omega)]
    refine c_subtitle ht hI ?_
    rw [s0]
    exact ⟨fun w => f95 1 ⟨fun _ => Or.inr ⟨by omega, w⟩, fun _ => by decide⟩, fun w => no (fun z => w z.2)⟩
  refine ⟨fun y => f61 (fun z => by omega), fun y => ⟨rgO (by omega) (by omega), c_subtitle ht hI ?_⟩⟩
  rw [subQ_0 (by omega) (by omega)]
  refine c_subtitle ht hI ?_
  rw [s0]
  exact ⟨fun w => f95 1 ⟨fun _ => Or.inl ⟨by omega, w⟩, fun _ => by decide⟩, fun w => f61 (fun z => w z.2)⟩
theorem whole_sp (h : ClC c W) (hI : InvW W) {Q : Int → Sg → Prop} (hQ : ∀ c', ClC c' W → Q 1 c') : wp_L_whole c Q := by
  obtain ⟨n0, n1, nS, nO⟩ := hI.1.2.2.2
  have hv := hI.1.2.2.1.rg
  refine order_sp h hI ⟨fun y => absurd y (by decide), fun _ => faults_law h hI (fun c1 h1 => ⟨fun y => absurd y (by decide), fun _ => ?_⟩)⟩
  intro P hP
  refine lq2 (P := P) (fun _ i => (W.A.tn - i).toNat) (fun x i => x = 1 ∧ 0 ≤ i ∧ i ≤ W.A.tn) ?_ 1 0 ⟨rfl, by omega, n0⟩
  rintro x i ⟨rfl, i0, i1⟩ ih
  refine hP 1 i (c_told h1 hI ?_)
  rw [told_8]
  refine ⟨fun _ => ⟨Or.inr rfl, hQ c1 h1⟩, fun z => ⟨fun y => absurd y (by decide), fun _ => ?_⟩⟩
  have i2 : i < W.A.tn := by omega
  have hS := nS i i0 i2
  have hp := hS.2.2.2.1
  have hrd := rdS_rg hI.1.2.2.1 hS
  have hch := chS_rg hS
  have e2 : subQ W.A i 2 = (W.A.T i).p := subQ_2 i0 i2
  have ech : chS (W.A.T i) = if (W.A.T i).p = 2 then (W.A.T i).one.ln + (W.A.T i).two.ln + 4 else (W.A.T i).one.ln := rfl
  have erd : rdS W.A.v (W.A.T i) = max (W.A.v 1) (W.A.v 0 * chS (W.A.T i)) := rfl
  have p01 : partQ W.A i 0 1 = (W.A.T i).one.ln := by
    rw [partQ_v i0 i2 (by omega) (by omega) (by omega) (by omega), ptV_1]
    rfl
  have l1 := hS.2.2.2.2.1
  have tail : ∀ more, chS (W.A.T i) = (W.A.T i).one.ln + more → 0 ≤ more → more ≤ 44 → wj_L_whole_108 P 1 i more c1 Q := fun more em m0 m1 => by
    have a1 := l1.2.2.1
    have a2 := l1.2.2.2.1
    refine c_part h1 hI (by omega) ?_
    rw [p01]
    refine c_told h1 hI ?_
    rw [told_v (by omega) (by omega)]
    intro x4 e4
    have e4 : x4 = W.A.v 0 * chS (W.A.T i) := by rw [e4, em, Int.mul_comm]
    refine ⟨rgO (by omega) (by omega), fun y => absurd y (by decide), fun _ => c_subtitle h1 hI ?_⟩
    rw [subQ_3 i0 i2]
    refine c_part h1 hI (by omega) ?_
    rw [p01]
    refine ⟨rgO (by omega) (by omega), fun _ => c_subtitle h1 hI ?_, fun y => absurd em y⟩
    rw [subQ_4 i0 i2]
    refine c_told h1 hI ?_
    rw [told_v (by omega) (by omega)]
    have ok : wj_L_whole_182 P i 1 c1 Q := ⟨rgO (by omega) (by omega), ih 1 (i + 1) ⟨rfl, by omega, by omega⟩ (by omega)⟩
    refine ⟨fun y => c_told h1 hI ?_, fun y => ⟨fun _ => ok, fun w => absurd (by omega) w⟩⟩
    rw [told_v (by omega) (by omega)]
    exact ⟨fun _ => ok, fun w => absurd (by omega) w⟩
  have f79 : wj_L_whole_79 P i c1 Q := by
    unfold wj_L_whole_79 wj_L_whole_84
    refine c_subtitle h1 hI ?_
    rw [e2]
    refine ⟨fun y => tail 0 ?_ (by omega) (by omega), fun y => c_part h1 hI (by omega) ?_⟩
    · rw [ech, if_neg (by omega), Int.add_zero]
    · have hp2 : (W.A.T i).p = 2 := by omega
      have l2 := hS.2.2.2.2.2 hp2
      have a1 := l2.2.2.1
      have a2 := l2.2.2.2.1
      have p11 : partQ W.A i 1 1 = (W.A.T i).two.ln := by
        rw [partQ_v i0 i2 (by omega) (by omega) (by omega) (by omega), ptV_1]
        rfl
      rw [p11]
      refine ⟨rgO (by omega) (by omega), tail _ ?_ (by omega) (by omega)⟩
      rw [ech, if_pos hp2]
      omega
  refine lines_sp i0 i2 (by omega) (by omega) (by omega) h1 hI ⟨fun y => absurd y (by decide), fun _ => c_subtitle h1 hI ?_⟩
  rw [e2]
  refine ⟨fun y => c_part h1 hI (by omega) ?_, fun y => lines_sp i0 i2 (by omega) (by omega) (by omega) h1 hI ⟨fun w => absurd w (by decide), fun _ => f79⟩⟩
  rw [partQ_no i0 i2 (by omega) (by omega) (by omega) (by omega)]
  exact ⟨fun _ => f79, fun w => absurd rfl w⟩
end LAW6
