/-! the reference: reading, snapping, gaps; all steps -/
section MSTEPS2
variable {m : Sg} {A : St} {n : Int} {T : Int → Sb} {O : Int → Int}
theorem reads_sp {Q : Sg → Prop} (hP : PgM m A) (hI : InvSt A) (hR : RwE m A.tn A.T) (hQ : ∀ m', frW m m' → RwE m' A.tn (rgS A.v (frS A) A.tn A.T) → Q m') : wp_X10_reads m Q := by
  have hIT := hI.2.2.2
  have n0 := hIT.1
  have n1 := hIT.2.1
  have bv := hI.2.2.1.rg
  have bl := (hI.1.sm (k := A.pn) hI.1.1 (Int.le_refl _))
  obtain ⟨O, hR⟩ := hR
  intro P hPP
  refine lq2 (P := P) (fun k _ => (A.tn - k).toNat) (fun k s => 0 ≤ k ∧ k ≤ A.tn ∧ frW m s ∧ RwM s A.tn (fun j => if j < k then rgS A.v (frS A) A.tn A.T j else A.T j) O) ?_ 0 m ⟨by omega, n0, frW.rf m, hR.congr (fun j j0 j1 => by rw [if_neg (by omega)]) (fun _ _ _ => rfl)⟩
  rintro k s ⟨k0, k1, hf, hRs⟩ ih
  have e9 := hRs.1
  refine hPP k s ⟨fun z => hQ s hf ⟨O, hRs.congr (fun j j0 j1 => if_pos (by omega)) (fun _ _ _ => rfl)⟩, fun z => ⟨k0, by omega, ?_⟩⟩
  have hk : k < A.tn := by omega
  have hps := hP.kept hf.1.1
  have hIS := hIT.2.2.1 k k0 hk
  have b1 := rgb hIS
  have b2 := rdS_rg hI.2.2.1 hIS
  have hrow : RowM s k (A.T k) (O k) := by
    have g := hRs.2 k k0 hk
    dsimp only at g
    rwa [if_neg (by omega)] at g
  have ebg : bgS (fun j => if j < k then rgS A.v (frS A) A.tn A.T j else A.T j) = bgS A.T := by
    funext j
    show Sb.b (if j < k then rgS A.v (frS A) A.tn A.T j else A.T j) = (A.T j).b
    split <;> rfl
  have enx : nxS A.tn (fun j => if j < k then rgS A.v (frS A) A.tn A.T j else A.T j) k = nxS A.tn A.T k := by
    unfold nxS
    rw [ebg]
    dsimp only
    rw [if_neg (by omega : ¬ k < k)]
  have nx := nxS_rg (T := A.T) k0 hk
  have el : ltS A.v A.tn A.T k = if nxS A.tn A.T k = -9 then 9999 else (A.T (nxS A.tn A.T k)).b - A.v 2 := rfl
  have fin : ∀ to, max (A.T k).e to = max (A.T k).e (min ((A.T k).b + rdS A.v (A.T k)) (min (frS A) (ltS A.v A.tn A.T k))) → wj_X10_reads_84 P k to s Q := fun to et => by
    refine ⟨k0, by omega, ?_⟩
    rw [hrow.1.2.1]
    have fin2 : ∀ e, e = max (A.T k).e to → wj_X10_reads_110 P k e k s Q := fun e ee => by
      refine ⟨k0, by omega, ?_⟩
      rintro s2 rfl
      have g := hRs.ed (k := k) (e := e) k0 hk
      rw [if_neg (by omega : ¬ k < k)] at g
      refine ⟨rgO (by omega) (by omega), ih (k + 1) _ ⟨by omega, by omega, hf.trans (frW.sI (by omega)), g.congr (fun j j0 j1 => ?_) (fun _ _ _ => rfl)⟩ (by omega)⟩
      unfold upS
      by_cases ej : j = k
      · rw [if_pos ej, if_pos (by omega : j < k + 1), ej, ee, et]
        rfl
      · rw [if_neg ej]
        try dsimp only
        by_cases e2 : j < k
        · rw [if_pos e2, if_pos (by omega)]
        · rw [if_neg e2, if_neg (by omega)]
    exact ⟨fun y => ⟨k0, by omega, fin2 _ (by omega)⟩, fun y => fin2 _ (by omega)⟩
  refine mReading_sp hps hI.2.2.1 hrow hIS k0 (by omega) ?_
  rw [hrow.1.1]
  rintro x2 rfl
  refine ⟨rgO (by omega) (by omega), mNext_sp hRs n1 k0 hk ?_⟩
  rw [enx]
  have fl : smS A.L A.pn.toNat = frS A := rfl
  have mid : ∀ to, to = min ((A.T k).b + rdS A.v (A.T k)) (frS A) → wj_X10_reads_45 P k (nxS A.tn A.T k) to s Q := fun to et => by
    refine ⟨fun y => fin to ?_, fun y => ⟨by omega, by omega, setting_sp hps.2.2 (by omega) (by omega) ?_⟩⟩
    · rw [if_pos y] at el
      have : frS A ≤ 9999 := bl.2.2
      omega
    · rw [if_neg y] at el
      have nx := nx.resolve_left y
      have b3 := rgb (hIT.2.2.1 (nxS A.tn A.T k) (by omega) nx.2.1)
      have e3 : gI s 282 (nxS A.tn A.T k) = (A.T (nxS A.tn A.T k)).b := by
        have g := (hRs.2 (nxS A.tn A.T k) (by omega) nx.2.1).1.1
        dsimp only at g
        rwa [if_neg (by omega)] at g
      rw [e3]
      refine ⟨rgO (by omega) (by omega), fun w => fin to (by omega), fun w => ⟨by omega, by omega, setting_sp hps.2.2 (by omega) (by omega) ?_⟩⟩
      exact ⟨rgO (by omega) (by omega), fin _ (by omega)⟩
  refine newLong_sp hps.1 hI.1 ?_
  rw [fl]
  refine ⟨fun y => mid _ (by omega), fun y => newLong_sp hps.1 hI.1 ?_⟩
  rw [fl]
  exact mid _ (by omega)
theorem separates_sp {Q : Sg → Prop} (hP : PgM m A) (hI : InvSt A) (hR : RwE m A.tn A.T) (hQ : ∀ m', frW m m' → RwE m' A.tn (gpS A.v A.tn A.T) → Q m') : wp_X10_separates m Q := by
  have hIT := hI.2.2.2
  have n0 := hIT.1
  have n1 := hIT.2.1
  have bv := hI.2.2.1.rg
  obtain ⟨O, hR⟩ := hR
  intro P hPP
  refine lq2 (P := P) (fun k _ => (A.tn - k).toNat) (fun k s => 0 ≤ k ∧ k ≤ A.tn ∧ frW m s ∧ RwM s A.tn (fun j => if j < k then gpS A.v A.tn A.T j else A.T j) O) ?_ 0 m ⟨by omega, n0, frW.rf m, hR.congr (fun j j0 j1 => by rw [if_neg (by omega)]) (fun _ _ _ => rfl)⟩
  rintro k s ⟨k0, k1, hf, hRs⟩ ih
  have e9 := hRs.1
  refine hPP k s ⟨fun z => hQ s hf ⟨O, hRs.congr (fun j j0 j1 => if_pos (by omega)) (fun _ _ _ => rfl)⟩, fun z => ?_⟩
  have hk : k < A.tn := by omega
  have hps := hP.kept hf.1.1
  have hIS := hIT.2.2.1 k k0 hk
  have b1 := rgb hIS
  have hrow : RowM s k (A.T k) (O k) := by
    have g := hRs.2 k k0 hk
    dsimp only at g
    rwa [if_neg (by omega)] at g
  have ebg : bgS (fun j => if j < k then gpS A.v A.tn A.T j else A.T j) = bgS A.T := by
    funext j
    show Sb.b (if j < k then gpS A.v A.tn A.T j else A.T j) = (A.T j).b
    split <;> rfl
  have enx : nxS A.tn (fun j => if j < k then gpS A.v A.tn A.T j else A.T j) k = nxS A.tn A.T k := by
    unfold nxS
    rw [ebg]
    dsimp only
    rw [if_neg (by omega : ¬ k < k)]
  have nx := nxS_rg (T := A.T) k0 hk
  have el : ltS A.v A.tn A.T k = if nxS A.tn A.T k = -9 then 9999 else (A.T (nxS A.tn A.T k)).b - A.v 2 := rfl
  have put : ∀ s2, (s2 = s ∧ min (A.T k).e (max (ltS A.v A.tn A.T k) ((A.T k).b + 1)) = (A.T k).e ∨ s2 = sI s 283 k (min (A.T k).e (max (ltS A.v A.tn A.T k) ((A.T k).b + 1)))) → wj_X10_separates_82 P k s2 Q := fun s2 hs2 => by
    have g : frW s s2 ∧ RwM s2 A.tn (upS (fun j => if j < k then gpS A.v A.tn A.T j else A.T j) k (edS (A.T k) (min (A.T k).e (max (ltS A.v A.tn A.T k) ((A.T k).b + 1))))) O := by
      rcases hs2 with ⟨rfl, h2⟩ | rfl
      · refine ⟨frW.rf _, hRs.congr (fun j j0 j1 => ?_) (fun _ _ _ => rfl)⟩
        unfold upS
        by_cases ej : j = k
        · rw [if_pos ej, ej, if_neg (by omega), h2]
          rfl
        · rw [if_neg ej]
      · refine ⟨frW.sI (by omega), (hRs.ed (k := k) k0 hk).congr (fun j j0 j1 => ?_) (fun _ _ _ => rfl)⟩
        unfold upS
        by_cases ej : j = k
        · rw [if_pos ej, if_pos ej]
          try dsimp only
          rw [if_neg (by omega : ¬ k < k)]
        · rw [if_neg ej, if_neg ej]
    refine ⟨rgO (by omega) (by omega), ih (k + 1) s2 ⟨by omega, by omega, hf.trans g.1, g.2.congr (fun j j0 j1 => ?_) (fun _ _ _ => rfl)⟩ (by omega)⟩
    unfold upS
    by_cases ej : j = k
    · rw [if_pos ej, if_pos (by omega), ej]
      rfl
    · rw [if_neg ej]
      dsimp only
      by_cases e2 : j < k
      · rw [if_pos e2, if_pos (by omega)]
      · rw [if_neg e2, if_neg (by omega)]
  have fin : ∀ to, min (A.T k).e (max to ((A.T k).b + 1)) = min (A.T k).e (max (ltS A.v A.tn A.T k) ((A.T k).b + 1)) → wj_X10_separates_43 P k to s Q := fun to et => by
    refine ⟨k0, by omega, ?_⟩
    rw [hrow.1.2.1]
    refine ⟨fun y => put s (Or.inl ⟨rfl, by omega⟩), fun y => ⟨k0, by omega, ?_⟩⟩
    rw [hrow.1.1]
    have fin2 : ∀ e, e = min (A.T k).e (max to ((A.T k).b + 1)) → wj_X10_separates_81 P k e k s Q := fun e ee => by
      refine ⟨k0, by omega, ?_⟩
      rintro s2 rfl
      exact put _ (Or.inr (by rw [ee, et]))
    exact ⟨fun w => ⟨k0, by omega, rgO (by omega) (by omega), fin2 _ (by omega)⟩, fun w => fin2 _ (by omega)⟩
  refine mNext_sp hRs n1 k0 hk ?_
  rw [enx]
  refine ⟨fun y => ⟨k0, by omega, ?_⟩, fun y => ⟨by omega, by omega, setting_sp hps.2.2 (by omega) (by omega) ?_⟩⟩
  · rw [hrow.1.2.1]
    rw [if_pos y] at el
    exact fin _ (by omega)
  · rw [if_neg y] at el
    have nx := nx.resolve_left y
    have b3 := rgb (hIT.2.2.1 (nxS A.tn A.T k) (by omega) nx.2.1)
    have e3 : gI s 282 (nxS A.tn A.T k) = (A.T (nxS A.tn A.T k)).b := by
      have g := (hRs.2 (nxS A.tn A.T k) (by omega) nx.2.1).1.1
      dsimp only at g
      rwa [if_neg (by omega)] at g
    rw [e3]
    exact ⟨rgO (by omega) (by omega), fin _ (by omega)⟩
theorem snaps_sp {Q : Sg → Prop} (hP : PgM m A) (hI : InvSt A) (hR : RwE m A.tn A.T) (hQ : ∀ m', frW m m' → RwE m' A.tn (bdS (snS A.sn A.f (A.v 3) A.T) A.tn.toNat) → Q m') : wp_X10_snaps m Q := by
  have hIT := hI.2.2.2
  have n0 := hIT.1
  have n1 := hIT.2.1
  have bv := hI.2.2.1.rg
  obtain ⟨O, hR⟩ := hR
  rintro had rfl
  rw [hR.1]
  intro P hPP
  refine lq2 (P := P) (fun k _ => (A.tn - k).toNat) (fun k s => 0 ≤ k ∧ k ≤ A.tn ∧ frW m s ∧ RwM s A.tn (fun j => if j < k then snS A.sn A.f (A.v 3) A.T j else A.T j) O) ?_ 0 m ⟨by omega, n0, frW.rf m, hR.congr (fun j j0 j1 => by rw [if_neg (by omega)]) (fun _ _ _ => rfl)⟩
  rintro k s ⟨k0, k1, hf, hRs⟩ ih
  refine hPP k s ⟨fun z => ?_, fun z => ⟨k0, by omega, ?_⟩⟩
  · have ek : k = A.tn := by omega
    have hRn : RwM s A.tn (snS A.sn A.f (A.v 3) A.T) O := hRs.congr (fun j j0 j1 => if_pos (by omega)) (fun _ _ _ => rfl)
    refine empties_sp hRn n0 n1 (fun s1 hf1 h90 hOld _ => ?_)
    intro P2 hP2
    refine lq2 (P := P2) (fun k _ => (A.tn - k).toNat) (fun k t => 0 ≤ k ∧ k ≤ A.tn ∧ frW m t ∧ (∀ i, 0 ≤ i → i < A.tn → OldM t i (snS A.sn A.f (A.v 3) A.T i) (O i)) ∧ RwE t k (bdS (snS A.sn A.f (A.v 3) A.T) k.toNat)) ?_ 0 s1 ⟨by omega, n0, hf.trans hf1, hOld, O, h90, fun i i0 i1 => by have i1 : i < 0 := i1; omega⟩
    rintro k t ⟨k0, k1, q1, q2, q3⟩ ih2
    refine hP2 k t ⟨fun y => hQ t q1 ?_, fun y => ⟨k0, by omega, k0, by omega, ?_⟩⟩
    · rw [show k = A.tn by omega] at q3; exact q3
    · obtain ⟨O2, q3⟩ := q3
      have hO := q2 k k0 (by omega)
      rw [hO.1.1, hO.1.2.1]
      refine inserts_sp q3 k0 (by omega) k0 (by omega) hO (fun t2 hf2 hc2 hR2 => ⟨rgO (by omega) (by omega), ih2 (k + 1) t2 ⟨by omega, by omega, q1.trans hf2, fun i i0 i1 => RowX.kept (q2 i i0 i1) hf2.1.1 (hc2 _ (by omega) _) (hc2 _ (by omega) _) (hc2 _ (by omega) _) (hc2 _ (by omega) _) (hc2 _ (by omega) _), ?_⟩ (by omega)⟩)
      rw [bdS_succ _ k0]
      exact ⟨_, hR2⟩
  · have hk : k < A.tn := by omega
    have hps := hP.kept hf.1.1
    have hIS := hIT.2.2.1 k k0 hk
    have b1 := rgb hIS
    have n3 := nrS_rg hI.2.1 (A.T k).b (A.v 3)
    have n4 := nrS_rg hI.2.1 (A.T k).e (A.v 3)
    have hrow : RowM s k (A.T k) (O k) := by
      have g := hRs.2 k k0 hk
      dsimp only at g
      rwa [if_neg (by omega)] at g
    have eT : (if k < k then snS A.sn A.f (A.v 3) A.T k else A.T k) = A.T k := if_neg (by omega)
    have last : ∀ b, b = snb A.sn A.f (A.v 3) (A.T k) → wj_X10_snaps_54 P A.tn k b k s Q := fun b eb => by
      subst eb
      generalize hb : snb A.sn A.f (A.v 3) (A.T k) = b
      refine ⟨k0, by omega, ?_⟩
      rintro s2 rfl
      have g1 := hRs.bg (k := k) (b := b) k0 hk
      rw [eT] at g1
      have r1 := (g1.2 k k0 hk).1
      have u1 : upS (fun j => if j < k then snS A.sn A.f (A.v 3) A.T j else A.T j) k (mkS b (A.T k).e (A.T k).p (A.T k).one (A.T k).two) k = mkS b (A.T k).e (A.T k).p (A.T k).one (A.T k).two := if_pos rfl
      rw [u1] at r1
      have r11 : gI (sI s 282 k b) 282 k = b := r1.1
      have r12 : gI (sI s 282 k b) 283 k = (A.T k).e := r1.2.1
      have hf2 : frW s (sI s 282 k b) := frW.sI (by omega)
      have hps2 := hps.kept hf2.1.1
      have fin : ∀ e, e = sne A.sn A.f (A.v 3) (A.T k) → wj_X10_snaps_97 P A.tn k e k (sI s 282 k b) Q := fun e ee => by
        refine ⟨k0, by omega, ?_⟩
        rintro s3 rfl
        have g2 := g1.ed (k := k) (e := e) k0 hk
        rw [u1] at g2
        refine ⟨rgO (by omega) (by omega), ih (k + 1) _ ⟨by omega, by omega, hf.trans (hf2.trans (frW.sI (by omega))), g2.congr (fun j j0 j1 => ?_) (fun _ _ _ => rfl)⟩ (by omega)⟩
        by_cases ej : j = k
        · have a1 : upS (upS (fun j => if j < k then snS A.sn A.f (A.v 3) A.T j else A.T j) k (mkS b (A.T k).e (A.T k).p (A.T k).one (A.T k).two)) k (edS (mkS b (A.T k).e (A.T k).p (A.T k).one (A.T k).two) e) j = edS (mkS b (A.T k).e (A.T k).p (A.T k).one (A.T k).two) e := if_pos ej
          rw [a1, if_pos (by omega), ej, ← hb, ee]
          rfl
        · have a1 : upS (upS (fun j => if j < k then snS A.sn A.f (A.v 3) A.T j else A.T j) k (mkS b (A.T k).e (A.T k).p (A.T k).one (A.T k).two)) k (edS (mkS b (A.T k).e (A.T k).p (A.T k).one (A.T k).two) e) j = if j < k then snS A.sn A.f (A.v 3) A.T j else A.T j := (if_neg ej).trans (if_neg ej)
          rw [a1]
          by_cases e2 : j < k
          · rw [if_pos e2, if_pos (by omega)]
          · rw [if_neg e2, if_neg (by omega)]
      refine ⟨k0, by omega, ?_⟩
      rw [r12]
      refine near_sp hps2 hI.2.1 hI.2.2.1 (by omega) (by omega) ?_
      have un : ¬ (nrS A.sn A.f (A.T k).e (A.v 3) ≠ -9 ∧ snb A.sn A.f (A.v 3) (A.T k) < nrS A.sn A.f (A.T k).e (A.v 3)) → wj_X10_snaps_91 P A.tn k k (sI s 282 k b) Q := fun hc => by
        refine ⟨k0, by omega, ?_⟩
        rw [r12]
        refine fin _ ?_
        unfold sne
        rw [if_neg hc]
      refine ⟨fun y => un (fun w => w.1 y), fun y => ⟨k0, by omega, ?_⟩⟩
      rw [r11]
      refine ⟨fun y2 => un (fun w => by have := w.2; rw [hb] at this; omega), fun y2 => ?_⟩
      refine fin _ ?_
      unfold sne
      rw [if_pos ⟨y, by rw [hb]; omega⟩]
    rw [hrow.1.1]
    refine near_sp hps hI.2.1 hI.2.2.1 (by omega) (by omega) ?_
    have un : ¬ (nrS A.sn A.f (A.T k).b (A.v 3) ≠ -9 ∧ nrS A.sn A.f (A.T k).b (A.v 3) < (A.T k).e) → wj_X10_snaps_48 P A.tn k k s Q := fun hc => by
      refine ⟨k0, by omega, ?_⟩
      rw [hrow.1.1]
      refine last _ ?_
      unfold snb
      rw [if_neg hc]
    refine ⟨fun y => un (fun w => w.1 y), fun y => ⟨k0, by omega, ?_⟩⟩
    rw [hrow.1.2.1]
    refine ⟨fun y2 => un (fun w => by have := w.2; omega), fun y2 => last _ ?_⟩
    unfold snb
    rw [if_pos ⟨y, by omega⟩]
theorem jAnd_pos {x y : Int} (h : rgI y) (hy : 0 ≤ y) : jAnd x y ≤ 0 ↔ jAnd x y = 0 := by
  have := jAnd_nn (x := x) h hy
  omega
theorem conforms_sp {W : Wd} {x : Int} {Q : Int → Sg → Prop} (h : MoC m W) (hI : InvW W)
    (h0 : ∀ m', frS2 m m' → fuS W.A x → Q 0 m')
    (h1 : ∀ m', frS2 m m' → ¬ fuS W.A x → gI m' 279 17 = loS W.A x → RwE m' (r5S W.A x).tn (r5S W.A x).T → Q 1 m') : wp_X10_conforms x m Q := by
  have hIA := hI.1
  have hPA : PgM m W.A := ⟨h.1.1, h.1.2.1, h.1.2.2.1⟩
  have hPB : ∀ B, (B = r1S W.A x ∨ B = r2S W.A x ∨ B = r3S W.A x ∨ B = r4S W.A x ∨ B = r5S W.A x) → ∀ m', frS2 m m' → PgM m' B := fun B hB m' hf => by
    obtain ⟨a1, a2, a3, a4, a5, a6⟩ := r_same W.A x B hB
    have := hPA.kept hf.1
    unfold PgM at this ⊢
    rw [a1, a2, a3, a4, a5, a6]
    exact this
  have p5 : ∀ m', frS2 m m' → ¬ fuS W.A x → gI m' 279 17 = loS W.A x → RwE m' (r4S W.A x).tn (r4S W.A x).T → wj_X10_conforms_55 x m' Q := fun m' hf hfu hl hR => by
    unfold wj_X10_conforms_55
    rw [jAnd_pos (rgO (by omega) (by omega)) (by omega)]
    refine ⟨fun z => h1 m' hf hfu hl ?_, fun z => separates_sp (hPB _ (by simp) m' hf) (r4S_inv hIA hfu) hR (fun m2 hf2 hR2 => h1 m2 (hf.trans hf2.1) hfu ((hf2.2 17 (by omega)).trans hl) ?_)⟩
    · unfold r5S; rw [if_pos z]; exact hR
    · unfold r5S; rw [if_neg z]; exact hR2
  have p4 : ∀ m', frS2 m m' → ¬ fuS W.A x → gI m' 279 17 = loS W.A x → RwE m' (r3S W.A x).tn (r3S W.A x).T → wj_X10_conforms_44 x m' Q := fun m' hf hfu hl hR => by
    unfold wj_X10_conforms_44
    rw [jAnd_pos (rgO (by omega) (by omega)) (by omega)]
    refine ⟨fun z => p5 m' hf hfu hl ?_, fun z => snaps_sp (hPB _ (by simp) m' hf) (r3S_inv hIA hfu) hR (fun m2 hf2 hR2 => p5 m2 (hf.trans hf2.1) hfu ((hf2.2 17 (by omega)).trans hl) ?_)⟩
    · unfold r4S; rw [if_pos z]; exact hR
    · unfold r4S; rw [if_neg z]; exact hR2
  have p3 : ∀ m', frS2 m m' → ¬ fuS W.A x → gI m' 279 17 = loS W.A x → RwE m' (r2S W.A x).tn (r2S W.A x).T → wj_X10_conforms_34 x m' Q := fun m' hf hfu hl hR => by
    unfold wj_X10_conforms_34
    rw [jAnd_pos (rgO (by omega) (by omega)) (by omega)]
    refine ⟨fun z => p4 m' hf hfu hl ?_, fun z => reads_sp (hPB _ (by simp) m' hf) (r2S_inv hIA hfu) hR (fun m2 hf2 hR2 => p4 m2 (hf.trans hf2.1) hfu ((hf2.2 17 (by omega)).trans hl) ?_)⟩
    · unfold r3S; rw [if_pos z]; exact hR
    · unfold r3S; rw [if_neg z]; exact hR2
  have p2 : ∀ m', frS2 m m' → ¬ fuS W.A x → gI m' 279 17 = loS W.A x → RwE m' (r1S W.A x).tn (r1S W.A x).T → wj_X10_conforms_24 x m' Q := fun m' hf hfu hl hR => by
    unfold wj_X10_conforms_24
    rw [jAnd_pos (rgO (by omega) (by omega)) (by omega)]
    refine ⟨fun z => p3 m' hf hfu hl ?_, fun z => merges_sp hR (r1S_inv hIA hfu).2.2.2 (fun m2 hf2 hR2 => p3 m2 (hf.trans hf2.1) hfu ((hf2.2 17 (by omega)).trans hl) ?_)⟩
    · unfold r2S; rw [if_pos z]; exact hR
    · unfold r2S; rw [if_neg z]; exact hR2
  rintro s0 rfl
  have hf0 : frS2 m (sI m 279 17 0) := frS2.sI (by omega)
  have hM0 := h.scr hf0
  refine takes_sp hM0.1.2.2.2 hIA.2.2.2 (fun m1 hf1 _ hf9 hR _ => ?_)
  have hf01 := hf0.trans hf1
  rw [jAnd_pos (rgO (by omega) (by omega)) (by omega)]
  refine ⟨fun z => p2 m1 hf01 (fun y => y.1 z) ?_ ?_, fun z => maps_sp (hPA.kept hf01.1) hIA hR (fun m2 hf2 h16 => ⟨fun _ => h0 m2 (hf01.trans hf2) ⟨z, h16⟩, fun y => absurd rfl y⟩) (fun m2 hf2 h16 hl hR2 => ⟨fun y => absurd y (by decide), fun _ => p2 m2 (hf01.trans hf2) (fun y => by have := y.2; omega) ?_ ?_⟩)⟩
  · rw [hf9 17 (by omega), gI_sI_self]; unfold loS; rw [if_pos z]
  · unfold r1S; rw [if_pos z]; exact ⟨_, hR⟩
  · rw [hl]; unfold loS; rw [if_neg z]
  · unfold r1S; rw [if_neg z]; exact hR2
end MSTEPS2
