/-! the class's trial: merging, reading, snapping, gaps -/
section TRIAL2
variable {c : Sg} {A : St} {q : Nat} {n : Int} {T : Int → Sb}
theorem TrC.wr {k : Int} {S : Sb} {c' : Sg} (h : TrC c q n T) (hn : n ≤ 16) (ht : trk q) (k0 : 0 ≤ k) (k1 : k < n) (hf : frC c c' (gR c (q + 1) k) (gR c (q + 1) k + 1)) (hS : SbC c' (gR c (q + 1) k) S) : TrC c' q n (upS T k S) ∧ frC c c' q (q + 18) := by
  obtain ⟨h1, h2, h3⟩ := h
  obtain ⟨t1, t2⟩ := ht
  have hr := h2.1 k k0 (by omega)
  have hg := (hf.1 (q + 1) (by omega)).2
  refine ⟨⟨((hf.1 q (by omega)).1 2).trans h1, h2.kept hg, fun j j0 j1 => ?_⟩, hf.mono (by omega) (by omega)⟩
  rw [hg j]
  unfold upS
  by_cases e : j = k
  · rw [if_pos e, e]; exact hS
  · rw [if_neg e]
    have hj := h2.1 j j0 (by omega)
    have : gR c (q + 1) j ≠ gR c (q + 1) k := fun z => e (h2.2 j k j0 (by omega) k0 (by omega) z)
    exact (h3 j j0 j1).kept hf (by omega) (by omega) (by omega)
theorem SbC.ed {r : Nat} {S : Sb} {e : Int} (h : SbC c r S) (hr : 4 ≤ r ∧ r < 279) : SbC (sI c r 1 e) r (edS S e) := by
  obtain ⟨⟨k1, k2, k3⟩, ⟨ka, kb⟩, kc⟩ := h
  have hf : frC c (sI c r 1 e) r (r + 1) := frC.sI (by omega) (by omega)
  refine ⟨⟨?_, ?_, ?_⟩, ⟨ka, kb.frz ka hf (by omega) (by omega)⟩, fun z => ⟨(kc z).1, (kc z).2.frz (kc z).1 hf (by omega) (by omega)⟩⟩
  · rw [gI_sI_nj (by omega)]; exact k1
  · rw [gI_sI_self]; rfl
  · rw [gI_sI_nj (by omega)]; exact k3
theorem merge_sp {Q : Sg → Prop} (h : StC c 34 A) (hI : InvSt A) (hQ : ∀ c', frC c c' 42 60 → StC c' 34 (s2S A) → Q c') : wp_X8_merge c Q := by
  intro P hP
  have hRs := h.rs
  refine lq2 (P := P) (fun k s => (gI s (34 + 8) 2 - k).toNat) (fun k s => 0 ≤ k ∧ k ≤ 16 ∧ frC c s 42 60 ∧ ∃ m n T, n - k ≤ (m : Nat) ∧ TrC s (34 + 8) n T ∧ InvTr n T ∧ mgG m k n T = mgG A.tn.toNat 0 A.tn A.T) ?_ 0 c ⟨by omega, by omega, frC.rf _ _ _, A.tn.toNat, A.tn, A.T, by omega, h.2.2.2, hI.2.2.2, rfl⟩
  rintro k s ⟨k0, k16, hf, m, n, T, hm, hT, hIT, hr⟩ ih
  have e : gI s (34 + 8) 2 = n := hT.1
  have hn := hIT.2.1
  have n0 := hIT.1
  have next : ∀ s2 m2 n2 T2, frC s s2 42 60 → n2 ≤ n → k + 1 < n → n2 - (k + 1) ≤ (m2 : Nat) → TrC s2 (34 + 8) n2 T2 → InvTr n2 T2 → mgG m2 (k + 1) n2 T2 = mgG A.tn.toNat 0 A.tn A.T → wj_X8_merge_60 P k s2 Q := fun s2 m2 n2 T2 hf2 hn2 hk2 hm2 hT2 hI2 hr2 => by
    have e2 := hT2.1
    exact ⟨rgO (by omega) (by omega), ih (k + 1) s2 ⟨by omega, by omega, hf.trans hf2, m2, n2, T2, hm2, hT2, hI2, hr2⟩ (by omega)⟩
  by_cases hk : k + 1 < n
  · have hm1 : m = (m - 1) + 1 := by omega
    rw [hm1, mgG, if_pos hk] at hr
    refine hP k s ⟨rgO (by omega) (by omega), fun z => by omega, fun _ => tAt_sp e hn k0 (by omega) ⟨rgO (by omega) (by omega), tAt_sp e hn (by omega) hk (overlaps_sp (hT.2.2 k k0 (by omega)) (hIT.2.2.1 k k0 (by omega)) (hT.2.2 (k + 1) (by omega) hk) (hIT.2.2.1 (k + 1) (by omega) hk) (hIT.2.2.2 k (k + 1) k0 (by omega) hk) (fun ho => ⟨fun z => by omega, fun _ => ?_⟩) (fun ho => ⟨fun _ => ?_, fun z => absurd rfl z⟩))⟩⟩
    · rw [if_pos ho] at hr
      refine tAt_sp e hn k0 (by omega) ⟨rgO (by omega) (by omega), tAt_sp e hn (by omega) hk ?_⟩
      have r1 := hT.2.1.1 k k0 (by omega)
      have r2 := hT.2.1.1 (k + 1) (by omega) (by omega)
      refine takeIn_sp (hT.2.2 k k0 (by omega)) (hT.2.2 (k + 1) (by omega) hk) (by omega) (fun z => by have := hT.2.1.2 k (k + 1) k0 (by omega) (by omega) (by omega) z; omega) (fun s2 hf2 hS2 => ?_)
      obtain ⟨g1, g2⟩ := hT.wr hn tr42 k0 (by omega) hf2 hS2
      have hI1 := (hIT.up (k := k) ((hIT.2.2.1 k k0 (by omega)).one (hIT.2.2.1 (k + 1) (by omega) hk)) rfl).del (x := k + 1) (by omega) hk
      refine ⟨rgO (by omega) (by omega), remove_sp g1 hn tr42 (by omega) hk (fun s3 hf3 hT3 _ => next s3 (m - 1) (n - 1) _ (g2.trans hf3) (by omega) hk (by omega) hT3 hI1 hr)⟩
    · rw [if_neg ho] at hr
      exact next s (m - 1) n T (frC.rf _ _ _) (by omega) hk (by omega) hT hIT hr
  · refine hP k s ⟨rgO (by omega) (by omega), fun z => hQ s hf ?_, fun z => by omega⟩
    · have hr2 : mgG m k n T = mkG n T := by
        cases m with
        | zero => rfl
        | succ m => rw [mgG, if_neg hk]
      have := (hRs.kept hf (by omega)).st hT
      unfold s2S
      rw [← hr, hr2]
      exact this
theorem ltS_congr {v : Int → Int} {T' : Int → Sb} (h : bgS T' = bgS T) (i : Int) : ltS v n T' i = ltS v n T i := by
  have hx : ∀ j, (T' j).b = (T j).b := fun j => congrFun h j
  unfold ltS nxS
  rw [h, hx i, hx]
theorem stretch_sp {Q : Sg → Prop} (h : StC c 34 A) (hI : InvSt A) (hQ : ∀ c', frC c c' 42 60 → StC c' 34 (s3S A) → Q c') : wp_X8_stretch c Q := by
  have hRs := h.rs
  have hn := hI.2.2.2.2.1
  have n0 := hI.2.2.2.1
  refine frames_sp h.1 hI.1 ?_
  intro P hP
  refine lq2 (P := P) (fun k _ => (A.tn - k).toNat) (fun k s => 0 ≤ k ∧ k ≤ A.tn ∧ frC c s 42 60 ∧ TrC s (34 + 8) A.tn (fun j => if j < k then rgS A.v (frS A) A.tn A.T j else A.T j)) ?_ 0 c ⟨by omega, n0, frC.rf _ _ _, h.2.2.2.congr (fun j j0 j1 => by rw [if_neg (by omega)])⟩
  rintro k s ⟨k0, k1, hf, hT⟩ ih
  have e : gI s (34 + 8) 2 = A.tn := hT.1
  refine hP k s ⟨fun z => hQ s hf ?_, fun z => tAt_sp e hn k0 (by omega) ?_⟩
  · exact (hRs.kept hf (by omega)).st (hT.congr (fun j j0 j1 => by rw [if_pos (by omega)]))
  · have hk : k < A.tn := by omega
    have hSt := (hRs.kept hf (by omega)).st hT
    have hIT : InvTr A.tn (fun j => if j < k then rgS A.v (frS A) A.tn A.T j else A.T j) := by
      have hg := hI.2.2.2.rg (fr := frS A) hI.2.2.1
      have eb : ∀ j, (if j < k then rgS A.v (frS A) A.tn A.T j else A.T j).b = (A.T j).b := fun j => by split <;> rfl
      refine ⟨n0, hn, fun j j0 j1 => ?_, fun i j i0 ij j1 => ?_⟩
      · dsimp only
        split
        · exact hg.2.2.1 j j0 j1
        · exact hI.2.2.2.2.2.1 j j0 j1
      · dsimp only
        rw [eb, eb]
        exact hI.2.2.2.2.2.2 i j i0 ij j1
    have hIst := hI.setT hIT
    have ebg : bgS (fun j => if j < k then rgS A.v (frS A) A.tn A.T j else A.T j) = bgS A.T := by
      funext j
      show Sb.b (if j < k then rgS A.v (frS A) A.tn A.T j else A.T j) = (A.T j).b
      split <;> rfl
    have hS : SbC s (gR s (34 + 8 + 1) k) (A.T k) := by
      have g := hT.2.2 k k0 hk
      dsimp only at g
      rwa [if_neg (by omega)] at g
    have hIS := hI.2.2.2.2.2.1 k k0 hk
    have hrow := hT.2.1.1 k k0 (by omega)
    refine latestEnd_sp hSt hIst k0 hk ?_
    rw [show ltS (setT A A.tn fun j => if j < k then rgS A.v (frS A) A.tn A.T j else A.T j).v (setT A A.tn fun j => if j < k then rgS A.v (frS A) A.tn A.T j else A.T j).tn (setT A A.tn fun j => if j < k then rgS A.v (frS A) A.tn A.T j else A.T j).T k = ltS A.v A.tn A.T k from ltS_congr ebg k]
    rintro x4 rfl
    refine reading_sp hSt hIst hS hIS ?_
    rw [show rdS (setT A A.tn fun j => if j < k then rgS A.v (frS A) A.tn A.T j else A.T j).v (A.T k) = rdS A.v (A.T k) from rfl, hS.1.1, ]
    have b1 := rgb hIS
    have b2 := rdS_rg hI.2.2.1 hIS
    rintro x5 rfl
    refine ⟨rgO (by omega) (by omega), ?_⟩
    rintro s2 rfl
    rw [hS.1.2.1]
    obtain ⟨g1, g2⟩ := hT.wr (S := edS (A.T k) (max (A.T k).e (min ((A.T k).b + rdS A.v (A.T k)) (min (frS A) (ltS A.v A.tn A.T k))))) hn tr42 k0 hk (frC.sI (Nat.le_refl _) (by omega)) (hS.ed (by omega))
    refine ⟨rgO (by omega) (by omega), ih (k + 1) _ ⟨by omega, by omega, hf.trans g2, g1.congr (fun j j0 j1 => ?_)⟩ (by omega)⟩
    unfold upS
    by_cases ej : j = k
    · rw [if_pos ej, if_pos (by omega), ej]; rfl
    · rw [if_neg ej]
      dsimp only
      by_cases e2 : j < k
      · rw [if_pos e2, if_pos (by omega)]
      · rw [if_neg e2, if_neg (by omega)]
theorem keepGaps_sp {Q : Sg → Prop} (h : StC c 34 A) (hI : InvSt A) (hQ : ∀ c', frC c c' 42 60 → StC c' 34 (s5S A) → Q c') : wp_X8_keepGaps c Q := by
  have hRs := h.rs
  have hn := hI.2.2.2.2.1
  have n0 := hI.2.2.2.1
  intro P hP
  refine lq2 (P := P) (fun k _ => (A.tn - k).toNat) (fun k s => 0 ≤ k ∧ k ≤ A.tn ∧ frC c s 42 60 ∧ TrC s (34 + 8) A.tn (fun j => if j < k then gpS A.v A.tn A.T j else A.T j)) ?_ 0 c ⟨by omega, n0, frC.rf _ _ _, h.2.2.2.congr (fun j j0 j1 => by rw [if_neg (by omega)])⟩
  rintro k s ⟨k0, k1, hf, hT⟩ ih
  have e : gI s (34 + 8) 2 = A.tn := hT.1
  refine hP k s ⟨fun z => hQ s hf ?_, fun z => tAt_sp e hn k0 (by omega) ?_⟩
  · exact (hRs.kept hf (by omega)).st (hT.congr (fun j j0 j1 => by rw [if_pos (by omega)]))
  · have hk : k < A.tn := by omega
    have hSt := (hRs.kept hf (by omega)).st hT
    have hIT : InvTr A.tn (fun j => if j < k then gpS A.v A.tn A.T j else A.T j) := by
      have hg := hI.2.2.2.gp (v := A.v)
      have eb : ∀ j, (if j < k then gpS A.v A.tn A.T j else A.T j).b = (A.T j).b := fun j => by split <;> rfl
      refine ⟨n0, hn, fun j j0 j1 => ?_, fun i j i0 ij j1 => ?_⟩
      · dsimp only
        split
        · exact hg.2.2.1 j j0 j1
        · exact hI.2.2.2.2.2.1 j j0 j1
      · dsimp only
        rw [eb, eb]
        exact hI.2.2.2.2.2.2 i j i0 ij j1
    have hIst := hI.setT hIT
    have ebg : bgS (fun j => if j < k then gpS A.v A.tn A.T j else A.T j) = bgS A.T := by
      funext j
      show Sb.b (if j < k then gpS A.v A.tn A.T j else A.T j) = (A.T j).b
      split <;> rfl
    have hS : SbC s (gR s (34 + 8 + 1) k) (A.T k) := by
      have g := hT.2.2 k k0 hk
      dsimp only at g
      rwa [if_neg (by omega)] at g
    have hIS := hI.2.2.2.2.2.1 k k0 hk
    have hrow := hT.2.1.1 k k0 (by omega)
    have b1 := rgb hIS
    refine latestEnd_sp hSt hIst k0 hk ?_
    rw [show ltS (setT A A.tn fun j => if j < k then gpS A.v A.tn A.T j else A.T j).v (setT A A.tn fun j => if j < k then gpS A.v A.tn A.T j else A.T j).tn (setT A A.tn fun j => if j < k then gpS A.v A.tn A.T j else A.T j).T k = ltS A.v A.tn A.T k from ltS_congr ebg k, hS.1.1]
    refine ⟨rgO (by omega) (by omega), ?_⟩
    rintro x3 rfl s2 rfl
    rw [hS.1.2.1]
    obtain ⟨g1, g2⟩ := hT.wr (S := edS (A.T k) (min (A.T k).e (max (ltS A.v A.tn A.T k) ((A.T k).b + 1)))) hn tr42 k0 hk (frC.sI (Nat.le_refl _) (by omega)) (hS.ed (by omega))
    refine ⟨rgO (by omega) (by omega), ih (k + 1) _ ⟨by omega, by omega, hf.trans g2, g1.congr (fun j j0 j1 => ?_)⟩ (by omega)⟩
    unfold upS
    by_cases ej : j = k
    · rw [if_pos ej, if_pos (by omega), ej]; rfl
    · rw [if_neg ej]
      dsimp only
      by_cases e2 : j < k
      · rw [if_pos e2, if_pos (by omega)]
      · rw [if_neg e2, if_neg (by omega)]
theorem snap_sp {Q : Sg → Prop} (h : StC c 34 A) (hI : InvSt A) (hQ : ∀ c', frC c c' 42 60 → StC c' 34 (s4S A) → Q c') : wp_X8_snap c Q := by
  have hRs := h.rs
  have hn := hI.2.2.2.2.1
  have n0 := hI.2.2.2.1
  have bv := hI.2.2.1.rg
  refine setAt_sp h.2.2.1 (by omega) (by omega) ?_
  intro P hP
  refine lq2 (P := P) (fun k _ => (A.tn - k).toNat) (fun k s => 0 ≤ k ∧ k ≤ A.tn ∧ frC c s 42 60 ∧ TrC s (34 + 8) A.tn (fun j => if j < k then snS A.sn A.f (A.v 3) A.T j else A.T j)) ?_ 0 c ⟨by omega, n0, frC.rf _ _ _, h.2.2.2.congr (fun j j0 j1 => by rw [if_neg (by omega)])⟩
  rintro k s ⟨k0, k1, hf, hT⟩ ih
  have e : gI s (34 + 8) 2 = A.tn := hT.1
  refine hP k s ⟨fun z => settleAll_sp (hT.congr (T' := snS A.sn A.f (A.v 3) A.T) (fun j j0 j1 => if_pos (by omega))) n0 hn tr42 (fun s2 hf2 hT2 => hQ s2 (hf.trans hf2) ?_), fun z => tAt_sp e hn k0 (by omega) ?_⟩
  · exact ((hRs.kept hf (by omega)).kept hf2 (by omega)).st hT2
  · have hk : k < A.tn := by omega
    have hRs2 := hRs.kept hf (by omega)
    have hS : SbC s (gR s (34 + 8 + 1) k) (A.T k) := by
      have g := hT.2.2 k k0 hk
      dsimp only at g
      rwa [if_neg (by omega)] at g
    have hIS := hI.2.2.2.2.2.1 k k0 hk
    have hrow := hT.2.1.1 k k0 (by omega)
    have b1 := rgb hIS
    have n1 := nrS_rg hI.2.1 (A.T k).b (A.v 3)
    have n2 := nrS_rg hI.2.1 (A.T k).e (A.v 3)
    generalize hr0 : gR s (34 + 8 + 1) k = r at *
    have hf1r : ∀ j v, frC s (sI s r j v) r (r + 1) := fun j v => frC.sI (Nat.le_refl _) (by omega)
    have last : ∀ s2, frC s s2 r (r + 1) → SbC s2 r (mkS (snb A.sn A.f (A.v 3) (A.T k)) (A.T k).e (A.T k).p (A.T k).one (A.T k).two) → wj_X8_snap_79 P (A.v 3) k r s2 Q := fun s2 hf2 hS2 => by
      have fin : ∀ s3, frC s s3 r (r + 1) → SbC s3 r (snS A.sn A.f (A.v 3) A.T k) → wj_X8_snap_118 P (A.v 3) k s3 Q := fun s3 hf3 hS3 => by
        have g := hT.wr (S := snS A.sn A.f (A.v 3) A.T k) (c' := s3) hn tr42 k0 hk (by rw [hr0]; exact hf3) (by rw [hr0]; exact hS3)
        refine ⟨rgO (by omega) (by omega), ih (k + 1) _ ⟨by omega, by omega, hf.trans g.2, g.1.congr (fun j j0 j1 => ?_)⟩ (by omega)⟩
        unfold upS
        by_cases ej : j = k
        · rw [if_pos ej, if_pos (by omega), ej]
        · rw [if_neg ej]
          dsimp only
          by_cases e2 : j < k
          · rw [if_pos e2, if_pos (by omega)]
          · rw [if_neg e2, if_neg (by omega)]
      have e1 : gI s2 r 1 = (A.T k).e := hS2.1.2.1
      have e0 : gI s2 r 0 = snb A.sn A.f (A.v 3) (A.T k) := hS2.1.1
      show wp_X4_nearest (34 + 4) (gI s2 r 1) (A.v 3) s2 _
      rw [e1]
      refine nearest_sp (hRs2.2.1.kept hf2 (by omega)) hI.2.1 (by omega) (by omega) (by omega) (by omega) ?_
      rw [e0]
      have un : ¬ (nrS A.sn A.f (A.T k).e (A.v 3) ≠ -9 ∧ snb A.sn A.f (A.v 3) (A.T k) < nrS A.sn A.f (A.T k).e (A.v 3)) → wj_X8_snap_118 P (A.v 3) k s2 Q := fun hc => by
        refine fin s2 hf2 ?_
        have : snS A.sn A.f (A.v 3) A.T k = mkS (snb A.sn A.f (A.v 3) (A.T k)) (A.T k).e (A.T k).p (A.T k).one (A.T k).two := by
          unfold snS sne
          rw [if_neg hc]
        rw [this]
        exact hS2
      refine ⟨fun y => un (fun w => w.1 y), fun y => ⟨fun y2 => un (fun w => by have := w.2; omega), fun y2 => ?_⟩⟩
      rintro s3 rfl
      refine fin _ (hf2.trans (frC.sI (Nat.le_refl _) (by omega))) ?_
      have : snS A.sn A.f (A.v 3) A.T k = edS (mkS (snb A.sn A.f (A.v 3) (A.T k)) (A.T k).e (A.T k).p (A.T k).one (A.T k).two) (nrS A.sn A.f (A.T k).e (A.v 3)) := by
        unfold snS sne
        rw [if_pos ⟨y, by omega⟩]
        rfl
      rw [this]
      exact hS2.ed (by omega)
    rw [hS.1.1]
    refine nearest_sp hRs2.2.1 hI.2.1 (by omega) (by omega) (by omega) (by omega) ?_
    rw [hS.1.2.1]
    have un : ¬ (nrS A.sn A.f (A.T k).b (A.v 3) ≠ -9 ∧ nrS A.sn A.f (A.T k).b (A.v 3) < (A.T k).e) → wj_X8_snap_79 P (A.v 3) k r s Q := fun hc => by
      refine last s (frC.rf _ _ _) ?_
      unfold snb
      rw [if_neg hc]
      exact hS
    refine ⟨fun y => un (fun w => w.1 y), fun y => ⟨fun y2 => un (fun w => by have := w.2; omega), fun y2 => ?_⟩⟩
    rintro s2 rfl
    refine last _ (hf1r _ _) ?_
    unfold snb
    rw [if_pos ⟨y, by omega⟩]
    obtain ⟨⟨k1, k2, k3⟩, ⟨ka, kb⟩, kc⟩ := hS
    have hfr := hf1r 0 (nrS A.sn A.f (A.T k).b (A.v 3))
    refine ⟨⟨?_, ?_, ?_⟩, ⟨ka, kb.frz ka hfr (by omega) (by omega)⟩, fun z => ⟨(kc z).1, (kc z).2.frz (kc z).1 hfr (by omega) (by omega)⟩⟩
    · rw [gI_sI_self]; rfl
    · rw [gI_sI_nj (by omega)]; exact k2
    · rw [gI_sI_nj (by omega)]; exact k3
end TRIAL2
