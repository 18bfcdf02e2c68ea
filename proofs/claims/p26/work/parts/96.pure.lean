/-! the law over the pure state: all of it -/
/-- what the first k steps of x come to -/
def prS (A : St) (x k : Int) : St := if k = 0 then A else if k = 1 then r1S A x else if k = 2 then r2S A x else if k = 3 then r3S A x else if k = 4 then r4S A x else r5S A x
theorem pr_0 (A : St) (x : Int) : prS A x 0 = A := if_pos rfl
theorem pr_1 (A : St) (x : Int) : prS A x 1 = r1S A x := by
  unfold prS
  rw [if_neg (by decide), if_pos rfl]
theorem pr_2 (A : St) (x : Int) : prS A x 2 = r2S A x := by
  unfold prS
  rw [if_neg (by decide), if_neg (by decide), if_pos rfl]
theorem pr_3 (A : St) (x : Int) : prS A x 3 = r3S A x := by
  unfold prS
  rw [if_neg (by decide), if_neg (by decide), if_neg (by decide), if_pos rfl]
theorem pr_4 (A : St) (x : Int) : prS A x 4 = r4S A x := by
  unfold prS
  rw [if_neg (by decide), if_neg (by decide), if_neg (by decide), if_neg (by decide), if_pos rfl]
theorem pr_5 (A : St) (x : Int) : prS A x 5 = r5S A x := by
  unfold prS
  rw [if_neg (by decide), if_neg (by decide), if_neg (by decide), if_neg (by decide), if_neg (by decide)]
theorem shl_0 : jShl 1 0 = 1 := by decide
theorem shl_1 : jShl 1 1 = 2 := by decide
theorem shl_2 : jShl 1 2 = 4 := by decide
theorem shl_3 : jShl 1 3 = 8 := by decide
theorem shl_4 : jShl 1 4 = 16 := by decide
theorem prS_no {A : St} {x k : Int} (k0 : 0 ≤ k) (k1 : k < 5) (h : jAnd x (jShl 1 k) = 0) : prS A x (k + 1) = prS A x k := by
  have hc : k = 0 ∨ k = 1 ∨ k = 2 ∨ k = 3 ∨ k = 4 := by omega
  rcases hc with e | e | e | e | e
  · rw [e, shl_0] at h
    rw [show k + 1 = 1 by omega, e, pr_1, pr_0]
    unfold r1S
    rw [if_pos h]
  · rw [e, shl_1] at h
    rw [show k + 1 = 2 by omega, e, pr_2, pr_1]
    unfold r2S
    rw [if_pos h]
  · rw [e, shl_2] at h
    rw [show k + 1 = 3 by omega, e, pr_3, pr_2]
    unfold r3S
    rw [if_pos h]
  · rw [e, shl_3] at h
    rw [show k + 1 = 4 by omega, e, pr_4, pr_3]
    unfold r4S
    rw [if_pos h]
  · rw [e, shl_4] at h
    rw [show k + 1 = 5 by omega, e, pr_5, pr_4]
    unfold r5S
    rw [if_pos h]
theorem prS_up {A : St} {x k : Int} (k0 : 0 ≤ k) (k1 : k < 5) (h : jAnd x (jShl 1 k) ≠ 0) : r5S (prS A x k) (jShl 1 k) = prS A x (k + 1) := by
  have hc : k = 0 ∨ k = 1 ∨ k = 2 ∨ k = 3 ∨ k = 4 := by omega
  rcases hc with e | e | e | e | e
  · rw [e, shl_0] at h
    rw [show k + 1 = 1 by omega, e, shl_0, pr_1, pr_0, r5_1]
    unfold r1S
    rw [if_neg h]
  · rw [e, shl_1] at h
    rw [show k + 1 = 2 by omega, e, shl_1, pr_2, pr_1, r5_2]
    unfold r2S
    rw [if_neg h]
  · rw [e, shl_2] at h
    rw [show k + 1 = 3 by omega, e, shl_2, pr_3, pr_2, r5_4]
    unfold r3S
    rw [if_neg h]
  · rw [e, shl_3] at h
    rw [show k + 1 = 4 by omega, e, shl_3, pr_4, pr_3, r5_8]
    unfold r4S
    rw [if_neg h]
  · rw [e, shl_4] at h
    rw [show k + 1 = 5 by omega, e, shl_4, pr_5, pr_4, r5_16]
    unfold r5S
    rw [if_neg h]
theorem shl_stp {k : Int} (k0 : 0 ≤ k) (k1 : k < 5) : stp (jShl 1 k) ∧ (jShl 1 k = 1 ↔ k = 0) := by
  have hc : k = 0 ∨ k = 1 ∨ k = 2 ∨ k = 3 ∨ k = 4 := by omega
  rcases hc with e | e | e | e | e
  · rw [e, shl_0]
    exact ⟨Or.inl rfl, ⟨fun _ => rfl, fun _ => rfl⟩⟩
  · rw [e, shl_1]
    exact ⟨Or.inr (Or.inl rfl), ⟨fun z => absurd z (by decide), fun z => absurd z (by decide)⟩⟩
  · rw [e, shl_2]
    exact ⟨Or.inr (Or.inr (Or.inl rfl)), ⟨fun z => absurd z (by decide), fun z => absurd z (by decide)⟩⟩
  · rw [e, shl_3]
    exact ⟨Or.inr (Or.inr (Or.inr (Or.inl rfl))), ⟨fun z => absurd z (by decide), fun z => absurd z (by decide)⟩⟩
  · rw [e, shl_4]
    exact ⟨Or.inr (Or.inr (Or.inr (Or.inr rfl))), ⟨fun z => absurd z (by decide), fun z => absurd z (by decide)⟩⟩
/-- d undos bring back the state A -/
def bkW (A : St) (W : Wd) (d : Int) : Prop := 0 ≤ d ∧ d ≤ W.hn ∧ (d = 0 → W.A = A) ∧ (0 < d → W.H (d - 1) = A)
theorem bkW.push {A : St} {W : Wd} {d : Int} (h : bkW A W d) (hd : d < 8) (B : St) : bkW A (setA (pushW W) B) (d + 1) := by
  obtain ⟨h0, h1, h2, h3⟩ := h
  refine ⟨by omega, by show d + 1 ≤ min (W.hn + 1) 8; omega, fun z => by omega, fun _ => ?_⟩
  show (if d + 1 - 1 = 0 then W.A else W.H (d + 1 - 1 - 1)) = A
  by_cases e : d = 0
  · rw [if_pos (by omega)]
    exact h2 e
  · rw [if_neg (by omega), show d + 1 - 1 - 1 = d - 1 by omega]
    exact h3 (by omega)
theorem bkW.pop {A : St} {W : Wd} {d : Int} (h : bkW A W d) (hd : 0 < d) : bkW A (popW W) (d - 1) := by
  obtain ⟨h0, h1, h2, h3⟩ := h
  have := h3 hd
  refine ⟨by omega, by show d - 1 ≤ W.hn - 1; omega, fun z => ?_, fun z => ?_⟩
  · show W.H 0 = A
    rw [show (0 : Int) = d - 1 by omega]
    exact this
  · show W.H (d - 1 - 1 + 1) = A
    rw [show d - 1 - 1 + 1 = d - 1 by omega]
    exact this
section LAW8
variable {c : Sg} {W : Wd} {sl : Int} {sx : Int → Int}
/-- the undos, and the end -/
theorem undos_sp {A0 : St} {d : Int} (hd : d ≤ 5) (h : ClC c W) (hI : InvW W) (hb : bkW A0 W d) (hn : A0.tn = 1 + Int.tmod (cel sl sx 22) 6) {Q : Int → Sg → Prop} (hQ : ∀ t, Q 1 t) : wj_L_law_208 sl sx d c Q := by
  have hd0 := hb.1
  have hm := tmod_rg (m := 6) (cel_rg sl sx 22).1 (by omega)
  intro P hP
  refine lq3 (P := P) (fun _ k _ => (d - k).toNat) (fun ok k t => ok = 1 ∧ 0 ≤ k ∧ k ≤ d ∧ ∃ W', ClC t W' ∧ InvW W' ∧ bkW A0 W' (d - k)) ?_ 1 0 c ⟨rfl, by omega, by omega, W, h, hI, by rw [Int.sub_zero]; exact hb⟩
  rintro ok k t ⟨rfl, k0, k1, W1, h1, i1, b1⟩ ih
  refine hP 1 k t ⟨fun z => ⟨fun y => absurd y (by decide), fun _ => c_told h1 i1 ?_⟩, fun z => ⟨fun y => absurd y (by decide), fun _ => c_undo h1 i1 (fun t2 h2 => ?_)⟩⟩
  · rw [told_8, b1.2.2.1 (by omega), hn]
    refine cell_sp (by omega) ⟨rgO (by omega) (by omega), fun _ => c_shown h1 i1 ?_, fun y => absurd rfl y⟩
    have es : shownQ W1.A 10000 = -1 := by
      unfold shownQ
      rw [if_pos (by omega)]
    rw [es]
    exact ⟨fun _ => hQ t, fun y => absurd rfl y⟩
  · have hh := b1.2.1
    have e : undoS W1 = mkR (W1.hn - 1) (popW W1) := by
      unfold undoS
      rw [if_neg (by omega)]
    have i2 := inv_undo i1
    rw [e] at h2 i2 ⊢
    have g := b1.pop (by omega)
    rw [show d - k - 1 = d - (k + 1) by omega] at g
    refine ⟨fun y => ?_, fun _ => ⟨rgO (by omega) (by omega), ih 1 (k + 1) t2 ⟨rfl, by omega, by omega, popW W1, h2, i2, g⟩ (by omega)⟩⟩
    have y : W1.hn - 1 < 0 := y
    exact absurd y (by omega)
/-- behind the steps: what they come to one by one is what they come to together -/
theorem sums_sp {A0 : St} {d full due : Int} (hd : d ≤ 5) (h : ClC c W) (hI : InvW W) (hb : bkW A0 W d) (hn : A0.tn = 1 + Int.tmod (cel sl sx 22) 6) (h0 : full = 0 → due = smS (lnS W.A.T) W.A.tn.toNat) (h1 : full ≠ 0 → due = -3) {Q : Int → Sg → Prop} (hQ : ∀ t, Q 1 t) : wj_L_law_140 sl sx due 1 d full c Q := by
  obtain ⟨n0, n1, nS, nO⟩ := hI.1.2.2.2
  have fin := undos_sp hd h hI hb hn hQ
  intro P hP
  refine lq2 (P := P) (fun _ i => (W.A.tn - i).toNat) (fun a i => 0 ≤ i ∧ i ≤ W.A.tn ∧ a = smS (lnS W.A.T) i.toNat) ?_ 0 0 ⟨by omega, n0, rfl⟩
  rintro a i ⟨i0, i2, ea⟩ ih
  refine hP a i (c_told h hI ?_)
  rw [told_8]
  refine ⟨fun z => ⟨fun y => absurd y (by decide), fun _ => ⟨fun y => ⟨fun _ => fin, fun w => ?_⟩, fun y => ⟨fun _ => fin, fun w => absurd (h1 y) w⟩⟩⟩, fun z => c_subtitle h hI ?_⟩
  · have e : a = due := by rw [ea, h0 y, show i = W.A.tn by omega]
    exact absurd e w
  · have i3 : i < W.A.tn := by omega
    have hS := nS i i0 i3
    have b0 := hS.1
    have b1 := hS.2.1
    have b2 := hS.2.2.1
    rw [subQ_1 i0 i3]
    refine c_subtitle h hI ?_
    rw [subQ_0 i0 i3]
    intro a' ea'
    have hs := lnS_sum hI.1.2.2.2 (k := i + 1) (by omega) (by omega)
    have hss := smS_succ (lnS W.A.T) i0
    have hl : lnS W.A.T i = (W.A.T i).e - (W.A.T i).b := rfl
    have e2 : a' = smS (lnS W.A.T) (i + 1).toNat := by omega
    exact ⟨rgO (by omega) (by omega), rgO (by omega) (by omega), ih a' (i + 1) ⟨by omega, by omega, e2⟩ (by omega)⟩
theorem law_sp (h : ClC c W) (hI : InvW W) (hn : W.A.tn = 1 + Int.tmod (cel sl sx 22) 6) {Q : Int → Sg → Prop} (hQ : ∀ t, Q 1 t) : wp_L_law sl sx 1 c Q := by
  refine ⟨fun y => absurd y (by decide), fun _ => frames_law h hI ⟨fun y => absurd y (by decide), fun _ => whole_sp h hI (fun c1 h1 => ⟨fun y => absurd y (by decide), fun _ => cell_sp (by omega) ?_⟩)⟩⟩
  have hm := tmod_rg (m := 31) (cel_rg sl sx 56).1 (by omega)
  intro x ex
  have x0 : 1 ≤ x := by omega
  have x1 : x ≤ 31 := by omega
  refine ⟨rgO (by omega) (by omega), c_ifConform h1 hI (fun c2 h2 P hP => ⟨by omega, by omega, ?_⟩)⟩
  have due0 : ¬ fuS W.A x → icQ W.A x 1 = smS (lnS (r5S W.A x).T) (r5S W.A x).tn.toNat := fun hf => by rw [icQ_no x0 x1 (by omega) (by omega) hf, icV_1]
  have due1 : fuS W.A x → icQ W.A x 1 = -3 := fun hf => icQ_fu x0 x1 (by omega) (by omega) hf
  generalize icQ W.A x 1 = due at due0 due1 hP ⊢
  refine lq5 (P := P) (fun _ _ _ k _ => (5 - k).toNat) (fun ok d full k t => ok = 1 ∧ 0 ≤ k ∧ k ≤ 5 ∧ 0 ≤ d ∧ d ≤ k ∧ ∃ W', ClC t W' ∧ InvW W' ∧ bkW W.A W' d ∧ ((full = 0 ∧ W'.A = prS W.A x k ∧ (0 < k → ¬ fuS W.A x)) ∨ (full = 1 ∧ fuS W.A x))) ?_ 1 0 0 0 c2 ⟨rfl, by omega, by omega, by omega, by omega, W, h2, hI, ⟨by omega, hI.2.2.1, fun _ => rfl, fun z => absurd z (by omega)⟩, Or.inl ⟨rfl, (pr_0 _ _).symm, fun z => absurd z (by omega)⟩⟩
  rintro ok d full k t ⟨rfl, k0, k1, d0, d1, W1, ht, i1, b1, hcase⟩ ih
  -- the end of the loop
  have out : (full ≠ 0 ∨ k = 5) → wj_L_law_140 sl sx due 1 d full t Q := fun hout => by
    refine sums_sp (by omega) ht i1 b1 hn (fun y => ?_) (fun y => ?_) hQ
    · rcases hcase with ⟨_, g2, g3⟩ | ⟨g1, _⟩
      · have k5 : k = 5 := hout.resolve_left (fun z => z y)
        rw [due0 (g3 (by omega)), g2, k5, pr_5]
      · omega
    · rcases hcase with ⟨g1, _⟩ | ⟨_, g2⟩
      · exact absurd g1 y
      · exact due1 g2
  refine hP 1 d full k t ⟨fun z => ⟨k0, by omega, out (Or.inr (by omega))⟩, fun z => ⟨fun y => absurd y (by decide), fun _ => ⟨fun yf => ⟨fun yb => ⟨k0, by omega, ?_⟩, fun yb => ⟨k0, by omega, ?_⟩⟩, fun yf => ⟨k0, by omega, out (Or.inl yf)⟩⟩⟩⟩
  · -- the bit is set
    rcases hcase with ⟨-, gA, gF⟩ | ⟨g1, _⟩
    · have hs := shl_stp k0 (by omega : k < 5)
      have hbit := bit_ft (x := x) (k := k) (by omega) (by omega) k0 (by omega)
      have hb : jAnd x (jShl 1 k) ≠ 0 := fun w => by
        rw [if_pos w] at hbit
        omega
      have hfu := stp_fu (A := W1.A) hs.1
      have s0 : 1 ≤ jShl 1 k := by rcases hs.1 with q | q | q | q | q <;> omega
      have s1 : jShl 1 k ≤ 31 := by rcases hs.1 with q | q | q | q | q <;> omega
      -- full now is full of all
      have fuAll : fuS W1.A (jShl 1 k) ↔ (k = 0 ∧ fuS W.A x) := by
        rw [hfu]
        refine ⟨fun w => ?_, fun w => ?_⟩
        · have e0 := hs.2.mp w.1
          have eA : W1.A = W.A := by rw [gA, e0, pr_0]
          have e1 : jShl 1 k = 1 := w.1
          rw [eA] at w
          refine ⟨e0, ?_, w.2⟩
          rw [← e1]
          exact hb
        · have eA : W1.A = W.A := by rw [gA, w.1, pr_0]
          rw [eA]
          exact ⟨hs.2.mpr w.1, w.2.2⟩
      refine c_ifConform ht i1 (fun t2 h2 => ?_)
      have go : ∀ f, (f = 0 ∧ ¬ fuS W1.A (jShl 1 k)) ∨ (f = 1 ∧ fuS W1.A (jShl 1 k)) → wj_L_law_107 P sl sx x due d k f t2 Q := fun f hf => by
        refine ⟨k0, by omega, step_sp hs.1 h2 i1 (fun t3 q3 h3 => ?_) (fun t3 q3 h3 => ?_)⟩
        · -- full: nothing has changed
          have f1 : f = 1 := by
            rcases hf with g | g
            · exact absurd q3 g.2
            · exact g.1
          refine ⟨fun y => absurd y (by omega), fun _ => ?_⟩
          intro d' ed
          have ed : d' = d := by omega
          exact ⟨rgO (by omega) (by omega), rgO (by omega) (by omega), by omega, by omega, ih 1 d' f (k + 1) t3 ⟨rfl, by omega, by omega, by omega, by omega, W1, h3, i1, by rw [ed]; exact b1, Or.inr ⟨f1, (fuAll.mp q3).2⟩⟩ (by omega)⟩
        · have f0 : f = 0 := by
            rcases hf with g | g
            · exact g.1
            · exact absurd g.2 q3
          refine ⟨fun _ => ?_, fun y => absurd f0 y⟩
          intro d' ed
          have ed : d' = d + 1 := by omega
          have i3 : InvW (setA (pushW W1) (r5S W1.A (jShl 1 k))) := i1.push.setA (r5S_inv i1.1 q3)
          have eA3 : (setA (pushW W1) (r5S W1.A (jShl 1 k))).A = prS W.A x (k + 1) := by
            show r5S W1.A (jShl 1 k) = _
            rw [gA]
            exact prS_up k0 (by omega) hb
          have hnf : ¬ fuS W.A x := fun w => by
            by_cases e0 : k = 0
            · exact q3 (fuAll.mpr ⟨e0, w⟩)
            · exact gF (by omega) w
          exact ⟨rgO (by omega) (by omega), rgO (by omega) (by omega), by omega, by omega, ih 1 d' f (k + 1) t3 ⟨rfl, by omega, by omega, by omega, by omega, _, h3, i3, by rw [ed]; exact b1.push (by omega) _, Or.inl ⟨f0, eA3, fun _ => hnf⟩⟩ (by omega)⟩
      by_cases hf : fuS W1.A (jShl 1 k)
      · rw [icQ_fu s0 s1 (by omega) (by omega) hf]
        exact ⟨fun y => absurd y (by decide), fun _ => go 1 (Or.inr ⟨rfl, hf⟩)⟩
      · have e0 : 0 ≤ icQ W1.A (jShl 1 k) 0 := by
          rw [icQ_no s0 s1 (by omega) (by omega) hf, icV_0]
          exact (r5S_inv i1.1 hf).2.2.2.1
        exact ⟨fun _ => go 0 (Or.inl ⟨rfl, hf⟩), fun y => absurd e0 y⟩
    · omega
  · -- the bit is not set
    have hbit := bit_ft (x := x) (k := k) (by omega) (by omega) k0 (by omega)
    have hb : jAnd x (jShl 1 k) = 0 := Classical.byContradiction fun w => by
      rw [if_neg w] at hbit
      exact yb hbit
    refine ⟨rgO (by omega) (by omega), by omega, by omega, ih 1 d full (k + 1) t ⟨rfl, by omega, by omega, d0, by omega, W1, ht, i1, b1, ?_⟩ (by omega)⟩
    rcases hcase with ⟨g1, g2, g3⟩ | g
    · refine Or.inl ⟨g1, by rw [g2, prS_no k0 (by omega) hb], fun _ w => ?_⟩
      by_cases e0 : k = 0
      · rw [e0] at hb
        exact w.1 hb
      · exact g3 (by omega) w
    · exact Or.inr g
end LAW8
theorem pure_law {sl : Int} {sx : Int → Int} (hsl : 0 ≤ sl) (hsx : ∀ j, rgI (sx j)) : PureL sl sx :=
  sets_sp cl00 inv00 ⟨by decide, by decide, by decide, by decide, by decide⟩ rfl rfl rfl (fun c' W' h' i' n' => law_sp h' i' n' (fun _ => rfl))
