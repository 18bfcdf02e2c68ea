/-! the law: a step -/
theorem r5_1 (B : St) : r5S B 1 = s1S B := by
  unfold r5S r4S r3S r2S r1S
  rw [if_pos (by decide), if_pos (by decide), if_pos (by decide), if_pos (by decide), if_neg (by decide)]
theorem r5_2 (B : St) : r5S B 2 = s2S B := by
  unfold r5S r4S r3S r2S r1S
  rw [if_pos (by decide), if_pos (by decide), if_pos (by decide), if_neg (by decide), if_pos (by decide)]
theorem r5_4 (B : St) : r5S B 4 = s3S B := by
  unfold r5S r4S r3S r2S r1S
  rw [if_pos (by decide), if_pos (by decide), if_neg (by decide), if_pos (by decide), if_pos (by decide)]
theorem r5_8 (B : St) : r5S B 8 = s4S B := by
  unfold r5S r4S r3S r2S r1S
  rw [if_pos (by decide), if_neg (by decide), if_pos (by decide), if_pos (by decide), if_pos (by decide)]
theorem r5_16 (B : St) : r5S B 16 = s5S B := by
  unfold r5S r4S r3S r2S r1S
  rw [if_neg (by decide), if_pos (by decide), if_pos (by decide), if_pos (by decide), if_pos (by decide)]
/-- every stretch has four frames at least -/
theorem fn4 {F L : Int → Int} {b e : Int} : ∀ p : Nat, 0 ≤ (fnG F L b e p).m ∧ ∀ j, 0 ≤ j → j < (fnG F L b e p).m → 4 ≤ (fnG F L b e p).E j - (fnG F L b e p).B j := by
  intro p
  induction p with
  | zero => exact ⟨Int.le_refl _, fun j j0 j1 => by have j1 : j < 0 := j1; omega⟩
  | succ p ih =>
    rw [fnG]
    split
    · exact ih
    · rename_i hc
      generalize fnG F L b e p = X at ih
      obtain ⟨i0, ih⟩ := ih
      unfold ptS
      split
      · rename_i hm
        refine ⟨i0, fun j j0 j1 => ?_⟩
        have j1 : j < X.m := j1
        show 4 ≤ (if j = X.m - 1 then _ else X.E j) - X.B j
        have := ih j j0 j1
        split
        · rename_i ej
          rw [← ej] at hm
          have := hm.2
          omega
        · exact this
      · refine ⟨by show 0 ≤ X.m + 1; omega, fun j j0 j1 => ?_⟩
        have j1 : j < X.m + 1 := j1
        show 4 ≤ (if j = X.m then _ else X.E j) - (if j = X.m then _ else X.B j)
        split
        · omega
        · exact ih j j0 (by omega)
theorem ins_all {α : Type} {R : α → Prop} {T : Int → α} {n w : Int} {S : α} (h : ∀ j, 0 ≤ j → j < n → R (T j)) (hS : R S) (w0 : 0 ≤ w) (w1 : w ≤ n) : ∀ j, 0 ≤ j → j < n + 1 → R (insF T w S j) := fun j j0 j1 => by
  unfold insF
  split
  · exact h j j0 (by omega)
  · split
    · exact hS
    · exact h (j - 1) (by omega) (by omega)
/-- behind mapping all subtitles end within the new cut and have four frames at least -/
theorem map4 {A : St} (hI : InvSt A) : ∀ i : Nat, (i : Int) ≤ A.tn → 0 ≤ (mpG A.pn A.F A.L A.T i).n ∧ ∀ j, 0 ≤ j → j < (mpG A.pn A.F A.L A.T i).n → ((mpG A.pn A.F A.L A.T i).T j).e ≤ frS A ∧ 4 ≤ ((mpG A.pn A.F A.L A.T i).T j).e - ((mpG A.pn A.F A.L A.T i).T j).b := by
  intro i
  induction i with
  | zero => intro _; exact ⟨Int.le_refl _, fun j j0 j1 => by have j1 : j < 0 := j1; omega⟩
  | succ i ih =>
    intro hi
    obtain ⟨n0, ih⟩ := ih (by omega)
    have hS := hI.2.2.2.2.2.1 (i : Int) (by omega) (by omega)
    have p0 := hI.1.1
    have hX := fnG_inv hI.1 (b := (A.T (i : Int)).b) (e := (A.T (i : Int)).e) hS.1 A.pn.toNat (by omega)
    have h4 := fn4 (F := A.F) (L := A.L) (b := (A.T (i : Int)).b) (e := (A.T (i : Int)).e) A.pn.toNat
    have eX : fnS A.pn A.F A.L (A.T (i : Int)) = fnG A.F A.L (A.T (i : Int)).b (A.T (i : Int)).e A.pn.toNat := rfl
    rw [mpG, eX]
    generalize fnG A.F A.L (A.T (i : Int)).b (A.T (i : Int)).e A.pn.toNat = X at hX h4
    generalize mpG A.pn A.F A.L A.T i = M at n0 ih
    show 0 ≤ M.n + X.m ∧ ∀ j, 0 ≤ j → j < M.n + X.m → (inG M.T M.n (A.T (i : Int)) X X.m.toNat j).e ≤ frS A ∧ 4 ≤ (inG M.T M.n (A.T (i : Int)) X X.m.toNat j).e - (inG M.T M.n (A.T (i : Int)) X X.m.toNat j).b
    have key : ∀ k : Nat, (k : Int) ≤ X.m → ∀ j, 0 ≤ j → j < M.n + k → (inG M.T M.n (A.T (i : Int)) X k j).e ≤ frS A ∧ 4 ≤ (inG M.T M.n (A.T (i : Int)) X k j).e - (inG M.T M.n (A.T (i : Int)) X k j).b := by
      intro k
      induction k with
      | zero => intro _ j j0 j1; exact ih j j0 (by omega)
      | succ k ihk =>
        intro hk
        have hx := hX.2.2 (k : Int) (by omega) (by omega)
        have hx4 := h4.2 (k : Int) (by omega) (by omega)
        have hl := posS_le (bgS (inG M.T M.n (A.T (i : Int)) X k)) (X.B (k : Int)) (M.n + k).toNat
        have ef : frS A = smS A.L A.pn.toNat := rfl
        have g := ins_all (R := fun S : Sb => S.e ≤ frS A ∧ 4 ≤ S.e - S.b) (S := mkS (X.B (k : Int)) (X.E (k : Int)) (A.T (i : Int)).p (A.T (i : Int)).one (A.T (i : Int)).two) (w := (posS (bgS (inG M.T M.n (A.T (i : Int)) X k)) (X.B (k : Int)) (M.n + k).toNat : Int)) (ihk (by omega)) ⟨by show X.E (k : Int) ≤ frS A; omega, hx4⟩ (by omega) (by omega)
        intro j j0 j1
        exact g j j0 (by omega)
    have x0 := h4.1
    refine ⟨by omega, fun j j0 j1 => ?_⟩
    exact key X.m.toNat (by omega) j j0 (by omega)
theorem bit2 : ∀ n : Fin 64, jAnd (n.val : Int) 2 ≠ 0 → (n.val / 2) % 2 = 1 := by decide +kernel
theorem bit_2 {x : Int} (x0 : 0 ≤ x) (x1 : x ≤ 63) (h : jAnd x 2 ≠ 0) : (x / 2) % 2 = 1 := by
  have := bit2 ⟨x.toNat, by omega⟩
  simp only at this
  rw [show ((x.toNat : Nat) : Int) = x by omega] at this
  have := this h
  omega
/-- behind gaps none is too near to the next one but those of a single frame -/
theorem gap1 {A : St} (hI : InvSt A) {i : Int} (i0 : 0 ≤ i) (i1 : i < A.tn) (h : jAnd (ftS (s5S A) i) 2 ≠ 0) : ((s5S A).T i).e = ((s5S A).T i).b + 1 := by
  have hr := ftS_rg (s5S A) i
  have hb := bit_2 hr.1 hr.2 h
  have hS := hI.2.2.2.2.2.1 i i0 i1
  have hbe := hS.2.1
  have p01 : ∀ (p : Prop) [Decidable p] (x : Int), (if p then x else 0) = 0 ∨ (if p then x else 0) = x := fun p _ x => by split <;> omega
  have hT : ((s5S A).T i) = edS (A.T i) (min (A.T i).e (max (ltS A.v A.tn A.T i) ((A.T i).b + 1))) := rfl
  have hlt : ltS (s5S A).v (s5S A).tn (s5S A).T i = ltS A.v A.tn A.T i := by
    show (if nxS A.tn (gpS A.v A.tn A.T) i = -9 then 9999 else (gpS A.v A.tn A.T (nxS A.tn (gpS A.v A.tn A.T) i)).b - A.v 2) = (if nxS A.tn A.T i = -9 then 9999 else (A.T (nxS A.tn A.T i)).b - A.v 2)
    have e : nxS A.tn (gpS A.v A.tn A.T) i = nxS A.tn A.T i := rfl
    rw [e]
    rfl
  by_cases hc : ltS (s5S A).v (s5S A).tn (s5S A).T i < ((s5S A).T i).e
  · rw [hlt, hT] at hc
    have hc : ltS A.v A.tn A.T i < min (A.T i).e (max (ltS A.v A.tn A.T i) ((A.T i).b + 1)) := hc
    rw [hT]
    show min (A.T i).e (max (ltS A.v A.tn A.T i) ((A.T i).b + 1)) = (A.T i).b + 1
    omega
  · exfalso
    have hsum : ftS (s5S A) i = (if ((s5S A).T i).e - ((s5S A).T i).b < rdS (s5S A).v ((s5S A).T i) then 1 else 0) + (if ltS (s5S A).v (s5S A).tn (s5S A).T i < ((s5S A).T i).e then 2 else 0) + (if shS (s5S A).tn (bgS (s5S A).T) i then 4 else 0)
      + (if offS (s5S A).sn (s5S A).f ((s5S A).v 3) ((s5S A).T i).b ∨ offS (s5S A).sn (s5S A).f ((s5S A).v 3) ((s5S A).T i).e then 8 else 0) + (if swS ((s5S A).T i) ((s5S A).v 4) then 16 else 0) + (if smS (s5S A).L (s5S A).pn.toNat < ((s5S A).T i).e then 32 else 0) := rfl
    rw [if_neg hc] at hsum
    have q1 := p01 (((s5S A).T i).e - ((s5S A).T i).b < rdS (s5S A).v ((s5S A).T i)) 1
    have q4 := p01 (shS (s5S A).tn (bgS (s5S A).T) i) 4
    have q8 := p01 (offS (s5S A).sn (s5S A).f ((s5S A).v 3) ((s5S A).T i).b ∨ offS (s5S A).sn (s5S A).f ((s5S A).v 3) ((s5S A).T i).e) 8
    have q16 := p01 (swS ((s5S A).T i) ((s5S A).v 4)) 16
    have q32 := p01 (smS (s5S A).L (s5S A).pn.toNat < ((s5S A).T i).e) 32
    generalize (if ((s5S A).T i).e - ((s5S A).T i).b < rdS (s5S A).v ((s5S A).T i) then (1 : Int) else 0) = g1 at *
    generalize (if shS (s5S A).tn (bgS (s5S A).T) i then (4 : Int) else 0) = g4 at *
    generalize (if offS (s5S A).sn (s5S A).f ((s5S A).v 3) ((s5S A).T i).b ∨ offS (s5S A).sn (s5S A).f ((s5S A).v 3) ((s5S A).T i).e then (8 : Int) else 0) = g8 at *
    generalize (if swS ((s5S A).T i) ((s5S A).v 4) then (16 : Int) else 0) = g16 at *
    generalize (if smS (s5S A).L (s5S A).pn.toNat < ((s5S A).T i).e then (32 : Int) else 0) = g32 at *
    rw [hsum] at hb
    rcases q1 with q1 | q1 <;> rcases q4 with q4 | q4 <;> rcases q8 with q8 | q8 <;> rcases q16 with q16 | q16 <;> rcases q32 with q32 | q32 <;> subst q1 <;> subst q4 <;> subst q8 <;> subst q16 <;> subst q32 <;> exact absurd hb (by decide)
theorem icQ_fu {A : St} {x k : Int} (x0 : 1 ≤ x) (x1 : x ≤ 31) (k0 : 0 ≤ k) (k1 : k ≤ 4) (hf : fuS A x) : icQ A x k = -3 := by
  unfold icQ
  rw [if_neg (fun z => z ⟨x0, x1, k0, k1⟩), if_pos hf]
theorem icQ_no {A : St} {x k : Int} (x0 : 1 ≤ x) (x1 : x ≤ 31) (k0 : 0 ≤ k) (k1 : k ≤ 4) (hf : ¬ fuS A x) : icQ A x k = icV A x k := by
  unfold icQ
  rw [if_neg (fun z => z ⟨x0, x1, k0, k1⟩), if_neg hf]
theorem icV_0 {A : St} {x : Int} : icV A x 0 = (r5S A x).tn := by
  unfold icV
  rw [if_pos rfl]
theorem icV_1 {A : St} {x : Int} : icV A x 1 = smS (lnS (r5S A x).T) (r5S A x).tn.toNat := by
  unfold icV
  rw [if_neg (by decide), if_pos rfl]
theorem icV_2 {A : St} {x : Int} : icV A x 2 = mnS (r5S A x) 6 (r5S A x).tn := by
  unfold icV mnS
  rw [if_neg (by decide), if_neg (by decide), if_pos rfl, if_pos rfl]
theorem icV_3 {A : St} {x : Int} : icV A x 3 = fdS (geS (r5S A x).T) (r5S A x).tn.toNat := by
  unfold icV
  rw [if_neg (by decide), if_neg (by decide), if_neg (by decide), if_pos rfl]
theorem icV_4 {A : St} {x : Int} : icV A x 4 = loS A x := by
  unfold icV
  rw [if_neg (by decide), if_neg (by decide), if_neg (by decide), if_neg (by decide)]
abbrev stp (x : Int) : Prop := x = 1 ∨ x = 2 ∨ x = 4 ∨ x = 8 ∨ x = 16
theorem stp_fu {A : St} {x : Int} (hx : stp x) : fuS A x ↔ (x = 1 ∧ 16 < (mpG A.pn A.F A.L A.T A.tn.toNat).n) := by
  unfold fuS
  rcases hx with rfl | rfl | rfl | rfl | rfl
  · exact ⟨fun z => ⟨rfl, z.2⟩, fun z => ⟨by decide, z.2⟩⟩
  · exact ⟨fun z => absurd (by decide) z.1, fun z => absurd z.1 (by decide)⟩
  · exact ⟨fun z => absurd (by decide) z.1, fun z => absurd z.1 (by decide)⟩
  · exact ⟨fun z => absurd (by decide) z.1, fun z => absurd z.1 (by decide)⟩
  · exact ⟨fun z => absurd (by decide) z.1, fun z => absurd z.1 (by decide)⟩
theorem stp_lo {A : St} {x : Int} (hx : stp x) : loS A x = if x = 1 then (mpG A.pn A.F A.L A.T A.tn.toNat).lo else 0 := by
  unfold loS
  rcases hx with rfl | rfl | rfl | rfl | rfl
  · rw [if_neg (by decide), if_pos rfl]
  · rw [if_pos (by decide), if_neg (by decide)]
  · rw [if_pos (by decide), if_neg (by decide)]
  · rw [if_pos (by decide), if_neg (by decide)]
  · rw [if_pos (by decide), if_neg (by decide)]
section LAW7
variable {c : Sg} {W : Wd}
/-- behind conform(): what was foretold has come -/
theorem stepB_sp {x : Int} (hx : stp x) (h : ClC c W) (hI : InvW W) {Q : Int → Sg → Prop} (hQ1 : ∀ c', fuS W.A x → ClC c' W → Q 1 c') (hQ0 : ∀ c', ¬ fuS W.A x → ClC c' (setA (pushW W) (r5S W.A x)) → Q 1 c') : wj_L_step_138 x (icQ W.A x 0) (icQ W.A x 1) (icQ W.A x 2) (icQ W.A x 3) c Q := by
  have x0 : 1 ≤ x := by rcases hx with h | h | h | h | h <;> omega
  have x1 : x ≤ 31 := by rcases hx with h | h | h | h | h <;> omega
  unfold wj_L_step_138 wj_L_step_143
  refine c_told h hI ?_
  rw [told_8]
  refine ⟨fun y => absurd y (by decide), fun _ => c_conform h hI (fun c1 h1 => ?_)⟩
  have i1 := inv_conform hI x
  by_cases hf : fuS W.A x
  · have e : conformS W x = mkR (-3) W := by
      unfold conformS
      rw [if_neg (by omega), if_pos hf]
    rw [e] at h1 i1 ⊢
    have h1 : ClC c1 W := h1
    rw [icQ_fu x0 x1 (by omega) (by omega) hf]
    refine ⟨fun _ => ⟨fun y => absurd y (by decide), fun _ => c_told h1 hI ?_⟩, fun y => absurd rfl y⟩
    rw [told_8]
    exact ⟨fun _ => hQ1 c1 hf h1, fun y => absurd rfl y⟩
  · have e : conformS W x = mkR (r5S W.A x).tn (setA (pushW W) (r5S W.A x)) := by
      unfold conformS
      rw [if_neg (by omega), if_neg hf]
    rw [e] at h1 i1 ⊢
    obtain ⟨W1, e1⟩ : ∃ z, z = setA (pushW W) (r5S W.A x) := ⟨_, rfl⟩
    rw [← e1] at h1 i1
    have h1 : ClC c1 W1 := h1
    have i1 : InvW W1 := i1
    have eA : W1.A = r5S W.A x := by rw [e1]; rfl
    have hQ : ∀ c', ClC c' W1 → Q 1 c' := fun c' hc => hQ0 c' hf (by rw [← e1]; exact hc)
    rw [icQ_no x0 x1 (by omega) (by omega) hf, icQ_no x0 x1 (by omega) (by omega) hf, icQ_no x0 x1 (by omega) (by omega) hf, icQ_no x0 x1 (by omega) (by omega) hf, icV_0, icV_1, icV_2, icV_3, ← eA]
    obtain ⟨n0, n1, nS, nO⟩ := i1.1.2.2.2
    have hmap : x = 1 → ∀ j, 0 ≤ j → j < W1.A.tn → (W1.A.T j).e ≤ frS W1.A ∧ 4 ≤ (W1.A.T j).e - (W1.A.T j).b := fun ex => by
      have e5 : W1.A = s1S W.A := by rw [eA, ex, r5_1]
      rw [e5]
      have t0 := hI.1.2.2.2.1
      exact (map4 hI.1 W.A.tn.toNat (by omega)).2
    have hgap : x = 16 → ∀ j, 0 ≤ j → j < W1.A.tn → jAnd (ftS W1.A j) 2 ≠ 0 → (W1.A.T j).e = (W1.A.T j).b + 1 := fun ex j j0 j1 => by
      have e5 : W1.A = s5S W.A := by rw [eA, ex, r5_16]
      rw [e5] at j1 ⊢
      exact gap1 hI.1 j0 j1
    refine ⟨fun _ => ⟨fun _ P hP => ?_, fun y => absurd n0 y⟩, fun y => absurd rfl y⟩
    refine lq4 (P := P) (fun _ _ _ i => (W1.A.tn - i).toNat) (fun ok a b i => ok = 1 ∧ 0 ≤ i ∧ i ≤ W1.A.tn ∧ a = smS (lnS W1.A.T) i.toNat ∧ b = fdS (geS W1.A.T) i.toNat) ?_ 1 0 0 0 ⟨rfl, by omega, n0, rfl, rfl⟩
    rintro ok a b i ⟨rfl, i0, i2, ea, eb⟩ ih
    refine hP 1 a b i ⟨fun z => ⟨fun y => absurd y (by decide), fun _ => c_told h1 i1 ?_⟩, fun z => c_subtitle h1 i1 ?_⟩
    · have ei : i = W1.A.tn := by omega
      rw [told_8]
      refine ⟨fun _ => ⟨fun _ => ⟨fun _ => c_faults h1 i1 ?_, fun y => absurd (by rw [eb, ei]) y⟩, fun y => absurd (by rw [ea, ei]) y⟩, fun y => absurd rfl y⟩
      rw [faultsQ_0]
      exact ⟨fun _ => whole_sp h1 i1 (fun c2 h2 => ⟨fun y => absurd y (by decide), fun _ => hQ c2 h2⟩), fun y => absurd rfl y⟩
    · have i3 : i < W1.A.tn := by omega
      have hS := nS i i0 i3
      have b0 := hS.1
      have b1 := hS.2.1
      have b2 := hS.2.2.1
      have s0 : subQ W1.A i 0 = (W1.A.T i).b := subQ_0 i0 i3
      have s1 : subQ W1.A i 1 = (W1.A.T i).e := subQ_1 i0 i3
      rw [s1]
      refine c_subtitle h1 i1 ?_
      rw [s0]
      intro a' ea'
      have hs := lnS_sum i1.1.2.2.2 (k := i + 1) (by omega) (by omega)
      have hss := smS_succ (lnS W1.A.T) i0
      have hl : lnS W1.A.T i = (W1.A.T i).e - (W1.A.T i).b := rfl
      have eA2 : a' = smS (lnS W1.A.T) (i + 1).toNat := by omega
      refine ⟨rgO (by omega) (by omega), c_subtitle h1 i1 ?_⟩
      rw [s1]
      have go : ∀ t, t = fdS (geS W1.A.T) (i + 1).toNat → wj_L_step_249 P x W1.A.tn (smS (lnS W1.A.T) W1.A.tn.toNat) (mnS W1.A 6 W1.A.tn) (fdS (geS W1.A.T) W1.A.tn.toNat) 1 a' i t c1 Q := fun t et => by
        have last : wj_L_step_345 P x W1.A.tn (smS (lnS W1.A.T) W1.A.tn.toNat) (mnS W1.A 6 W1.A.tn) (fdS (geS W1.A.T) W1.A.tn.toNat) a' t i c1 Q := ⟨rgO (by omega) (by omega), ih 1 a' t (i + 1) ⟨rfl, by omega, by omega, eA2, et⟩ (by omega)⟩
        have mid : wj_L_step_296 P x W1.A.tn (smS (lnS W1.A.T) W1.A.tn.toNat) (mnS W1.A 6 W1.A.tn) (fdS (geS W1.A.T) W1.A.tn.toNat) a' t i c1 Q := by
          refine ⟨fun y => absurd y (by decide), fun _ => ⟨fun ex => c_subtitle h1 i1 ?_, fun _ => last⟩⟩
          rw [subQ_5 i0 i3]
          refine ⟨fun _ => last, fun y => c_subtitle h1 i1 ?_⟩
          rw [s1]
          refine c_subtitle h1 i1 ?_
          rw [s0]
          exact ⟨rgO (by omega) (by omega), fun _ => last, fun w => absurd (hgap ex i i0 i3 y) w⟩
        refine ⟨fun y => absurd y (by decide), fun _ => ⟨fun ex => c_subtitle h1 i1 ?_, fun _ => mid⟩⟩
        have h4 := hmap ex i i0 i3
        rw [s1]
        refine c_told h1 i1 ?_
        rw [told_6]
        refine ⟨fun y => absurd y (by omega), fun _ => c_subtitle h1 i1 ?_⟩
        rw [s1]
        refine c_subtitle h1 i1 ?_
        rw [s0]
        exact ⟨rgO (by omega) (by omega), fun y => absurd y (by omega), fun _ => mid⟩
      have hg : fdS (geS W1.A.T) (i + 1).toNat = max b (W1.A.T i).e := by rw [fdS_succ _ i0, ← eb]; rfl
      refine ⟨fun y => go b (by rw [hg]; omega), fun y => c_subtitle h1 i1 ?_⟩
      rw [s1]
      exact go _ (by rw [hg]; omega)
theorem step_sp {x : Int} (hx : stp x) (h : ClC c W) (hI : InvW W) {Q : Int → Sg → Prop} (hQ1 : ∀ c', fuS W.A x → ClC c' W → Q 1 c') (hQ0 : ∀ c', ¬ fuS W.A x → ClC c' (setA (pushW W) (r5S W.A x)) → Q 1 c') : wp_L_step x c Q := by
  have x0 : 1 ≤ x := by rcases hx with h | h | h | h | h <;> omega
  have x1 : x ≤ 31 := by rcases hx with h | h | h | h | h <;> omega
  obtain ⟨n0, n1, nS, nO⟩ := hI.1.2.2.2
  refine c_ifConform h hI (fun c1 h1 => c_ifConform h1 hI (fun c2 h2 => c_ifConform h2 hI (fun c3 h3 => c_ifConform h3 hI (fun c4 h4 => ?_))))
  intro P hP
  have hM := map4 hI.1
  refine lq4 (P := P) (fun _ _ i _ => (W.A.tn - i).toNat) (fun a b i t => 0 ≤ i ∧ i ≤ W.A.tn ∧ ClC t W ∧ a = (mpG W.A.pn W.A.F W.A.L W.A.T i.toNat).lo ∧ b = (mpG W.A.pn W.A.F W.A.L W.A.T i.toNat).n ∧ 0 ≤ a ∧ a ≤ i ∧ 0 ≤ b ∧ b ≤ 10 * i) ?_ 0 0 0 c4 ⟨by omega, n0, h4, rfl, rfl, by omega, by omega, by omega, by omega⟩
  rintro a b i t ⟨i0, i2, ht, ea, eb, a0, a1, b0, b1⟩ ih
  refine hP a b i t (c_told ht hI ?_)
  rw [told_8]
  refine ⟨fun z => c_ifConform ht hI (fun t2 h2 => ?_), fun z => c_stretches ht hI (fun t2 h2 => ?_)⟩
  · have ei : i = W.A.tn := by omega
    rw [ei] at ea eb
    have fin := stepB_sp hx h2 hI hQ1 hQ0
    have hfu := stp_fu (A := W.A) hx
    have hlo := stp_lo (A := W.A) hx
    have h112 : ∀ e, e = icQ W.A x 4 → wj_L_step_112 x (icQ W.A x 0) (icQ W.A x 1) (icQ W.A x 2) (icQ W.A x 3) b e (icQ W.A x 4) t2 Q := fun e ee => by
      refine ⟨fun _ => ⟨fun ex => ?_, fun _ => fin⟩, fun y => absurd ee.symm y⟩
      have e0 : icQ W.A x 0 = if b ≤ 16 then b else -3 := by
        by_cases hf : fuS W.A x
        · rw [icQ_fu x0 x1 (by omega) (by omega) hf, if_neg (by have := (hfu.mp hf).2; omega)]
        · rw [icQ_no x0 x1 (by omega) (by omega) hf, icV_0, ex, r5_1, if_pos (Int.not_lt.mp (fun q => hf (hfu.mpr ⟨ex, by omega⟩))), eb]
          rfl
      refine ⟨fun y => ⟨fun _ => fin, fun w => absurd (by rw [e0, if_pos y]) w⟩, fun y => ⟨fun _ => fin, fun w => absurd (by rw [e0, if_neg y]) w⟩⟩
    by_cases hf : fuS W.A x
    · have e4 : icQ W.A x 4 = -3 := icQ_fu x0 x1 (by omega) (by omega) hf
      have e0 : icQ W.A x 0 = -3 := icQ_fu x0 x1 (by omega) (by omega) hf
      exact ⟨fun y => absurd y (by omega), fun _ => h112 (-3) e4.symm⟩
    · have e4 : icQ W.A x 4 = loS W.A x := by rw [icQ_no x0 x1 (by omega) (by omega) hf, icV_4]
      have e0 : 0 ≤ icQ W.A x 0 := by
        rw [icQ_no x0 x1 (by omega) (by omega) hf, icV_0]
        exact (r5S_inv hI.1 hf).2.2.2.1
      refine ⟨fun _ => ⟨fun ex => h112 a ?_, fun ex => h112 0 ?_⟩, fun y => absurd e0 y⟩
      · rw [e4, hlo, if_pos ex]
        exact ea
      · rw [e4, hlo, if_neg ex]
  · have i3 : i < W.A.tn := by omega
    have es : strQ W.A i = (fnS W.A.pn W.A.F W.A.L (W.A.T i)).m := by
      unfold strQ
      rw [if_neg (by omega)]
    have hfn := fnS_inv hI.1.1 (nS i i0 i3)
    have f0 := hfn.1
    have f1 := hfn.2.1
    have hup := mpG_succ W.A.pn W.A.F W.A.L W.A.T i0
    rw [es]
    have go : ∀ d, d = (if (fnS W.A.pn W.A.F W.A.L (W.A.T i)).m = 0 then 1 else 0) → wj_L_step_66 P x (icQ W.A x 0) (icQ W.A x 1) (icQ W.A x 2) (icQ W.A x 3) b i d a t2 Q := fun d ed => by
      have d01 : 0 ≤ d ∧ d ≤ 1 := by
        rw [ed]
        split <;> omega
      intro a' ea'
      refine ⟨rgO (by omega) (by omega), c_stretches h2 hI (fun t3 h3 => ?_)⟩
      rw [es]
      intro b' eb'
      refine ⟨rgO (by omega) (by omega), rgO (by omega) (by omega), ih a' b' (i + 1) t3 ⟨by omega, by omega, h3, ?_, ?_, by omega, by omega, by omega, by omega⟩ (by omega)⟩
      · rw [hup]
        show a' = if (fnS W.A.pn W.A.F W.A.L (W.A.T i)).m = 0 then (mpG W.A.pn W.A.F W.A.L W.A.T i.toNat).lo + 1 else (mpG W.A.pn W.A.F W.A.L W.A.T i.toNat).lo
        rw [← ea, ea', ed]
        split <;> omega
      · rw [hup]
        show b' = (mpG W.A.pn W.A.F W.A.L W.A.T i.toNat).n + (fnS W.A.pn W.A.F W.A.L (W.A.T i)).m
        rw [← eb, eb']
    refine ⟨fun y => go 1 ?_, fun y => go 0 ?_⟩
    · rw [if_pos y]
    · rw [if_neg y]
end LAW7
