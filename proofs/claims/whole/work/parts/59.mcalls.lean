/-! the reference's calls -/
section MCALLS
variable {m : Sg} {W : Wd}
theorem isSub_sp {i : Int} {Q : Int → Prop} (h : MoC m W) (hI : InvW W) (h1 : 0 ≤ i ∧ i < W.A.tn → Q 1) (h0 : ¬ (0 ≤ i ∧ i < W.A.tn) → Q 0) : wp_X10_isSubtitle i m Q := by
  have a := hI.1.2.2.2.1
  have b := hI.1.2.2.2.2.1
  refine ⟨by omega, by omega, ?_⟩
  rw [h.1.2.2.2.1]
  exact ⟨rgO (by omega) (by omega), in_sp (fun z => h1 (by omega)) (fun z => h0 (by omega))⟩
theorem mWrong_sp {Q : Int → Prop} (h : MoC m W) (hI : InvW W) (hQ : Q (wbQ W)) : wp_X10_wrongBlank m Q := by
  intro P hP
  obtain ⟨g3, g4⟩ := h.2.1
  have b := hI.2.1
  refine lq1 (P := P) (fun k => (W.tb - k).toNat) (fun k => 0 ≤ k ∧ k ≤ W.tb ∧ wbG W.tb W.B (W.tb - k).toNat k = wbQ W) ?_ 0 ⟨by omega, b.1, by rw [Int.sub_zero]; rfl⟩
  rintro k ⟨k0, k1, hr⟩ ih
  refine hP k ?_
  rw [g3]
  refine ⟨fun z => ?_, fun z => ⟨k0, by omega, ?_⟩⟩
  · rw [show (W.tb - k).toNat = 0 by omega] at hr
    rw [← hr] at hQ; exact hQ
  · rw [g4 k k0 (by omega)]
    rw [show (W.tb - k).toNat = (W.tb - (k + 1)).toNat + 1 by omega, wbG] at hr
    have next : ¬ (W.B k = 32 ∧ (k = 0 ∨ k = W.tb - 1 ∨ W.B (k - 1) = 32)) → wj_X10_wrongBlank_50 P k m Q := fun hc => by
      rw [if_neg hc] at hr
      exact ⟨rgO (by omega) (by omega), ih (k + 1) ⟨by omega, by omega, hr⟩ (by omega)⟩
    have stop : (W.B k = 32 ∧ (k = 0 ∨ k = W.tb - 1 ∨ W.B (k - 1) = 32)) → Q k := fun hc => by
      rw [if_pos hc] at hr
      rw [hr]; exact hQ
    refine ⟨fun y => ⟨fun y2 => stop ⟨y, Or.inl y2⟩, fun y2 => ⟨rgO (by omega) (by omega), fun y3 => stop ⟨y, Or.inr (Or.inl y3)⟩, fun y3 => ⟨by omega, by omega, ?_⟩⟩⟩, fun y => next (fun w => y w.1)⟩
    rw [g4 (k - 1) (by omega) (by omega)]
    exact ⟨fun y4 => stop ⟨y, Or.inr (Or.inr y4)⟩, fun y4 => next (fun w => w.2.elim y2 (fun w => w.elim y3 y4))⟩
theorem areTimes_sp {b e : Int} {Q : Int → Prop} (h1 : times b e → Q 1) (h0 : ¬ times b e → Q 0) : wp_X10_areTimes b e m Q :=
  ⟨fun z => h0 (by omega), fun z => ⟨fun y => h0 (by omega), fun y => ⟨fun w => h0 (by omega), fun w => h1 (by omega)⟩⟩⟩
def cntS (i k : Int) : Int := if k ≤ i then k else k - 1
theorem reb_step {s : Sg} {T : Int → Sb} {n i k : Int} {Q : Sg → Prop} (hIT : InvTr n T) (i0 : 0 ≤ i) (i1 : i < n) (k0 : 0 ≤ k) (k1 : k < n) (hki : k ≠ i) (hR : RwM s (cntS i k) (delF T i) (delF (fun j => 2 * j) i)) (hO : OldM s k (T k) (2 * k))
    (hQ : ∀ s2, frW s s2 → (∀ a, 287 ≤ a → ∀ j, gI s2 a j = gI s a j) → RwM s2 (cntS i (k + 1)) (delF T i) (delF (fun j => 2 * j) i) → Q s2) : wp_X10_inserts (gI s 287 k) (gI s 288 k) k s Q := by
  have n1 := hIT.2.1
  have hc : (k < i ∧ cntS i k = k ∧ cntS i (k + 1) = k + 1) ∨ (i < k ∧ cntS i k = k - 1 ∧ cntS i (k + 1) = k) := by
    unfold cntS
    rcases Int.lt_or_gt_of_ne hki with g | g
    · exact Or.inl ⟨g, if_pos (by omega), if_pos (by omega)⟩
    · refine Or.inr ⟨g, if_neg (by omega), ?_⟩
      rw [if_neg (by omega)]; omega
  have c0 : 0 ≤ cntS i k := by omega
  have c1 : cntS i k < 16 := by omega
  have c2 : cntS i (k + 1) = cntS i k + 1 := by omega
  have dl : ∀ j, delF T i j = if j < i then T j else T (j + 1) := fun _ => rfl
  have dc : delF T i (cntS i k) = T k := by
    rw [dl]
    rcases hc with ⟨g, e, _⟩ | ⟨g, e, _⟩
    · rw [e, if_pos g]
    · rw [e, if_neg (by omega), show k - 1 + 1 = k by omega]
  have oc : delF (fun j => 2 * j) i (cntS i k) = 2 * k := by
    unfold delF
    rcases hc with ⟨g, e, _⟩ | ⟨g, e, _⟩
    · rw [e, if_pos g]
    · rw [e, if_neg (by omega)]; dsimp only; omega
  have hp : posS (bgS (delF T i)) (T k).b (cntS i k).toNat = (cntS i k).toNat := posS_end (fun hpos => by
    show (delF T i (((cntS i k).toNat : Int) - 1)).b ≤ (T k).b
    rw [dl, show (((cntS i k).toNat : Nat) : Int) = cntS i k by omega]
    split
    · exact hIT.2.2.2 _ k (by omega) (by omega) k1
    · exact hIT.2.2.2 _ k (by omega) (by omega) k1)
  rw [hO.1.1, hO.1.2.1]
  refine inserts_sp hR c0 c1 k0 (by omega) hO (fun s2 hf2 hc2 hR2 => hQ s2 hf2 hc2 ?_)
  rw [hp, show (((cntS i k).toNat : Nat) : Int) = cntS i k by omega] at hR2
  rw [c2]
  refine hR2.congr (fun j j0 j1 => ?_) (fun j j0 j1 => ?_)
  · unfold insF
    by_cases e : j < cntS i k
    · rw [if_pos e]
    · rw [if_neg e, if_pos (by omega), show j = cntS i k by omega, dc]
      rfl
  · unfold insF
    by_cases e : j < cntS i k
    · rw [if_pos e]
    · rw [if_neg e, if_pos (by omega), show j = cntS i k by omega, oc]
theorem m_drop (h : MoC m W) (hI : InvW W) {i : Int} {Q : Int → Sg → Prop} (hQ : ∀ m', MoC m' (dropS W i).W → Q (dropS W i).r m') : wp_X10_drop i m Q := by
  unfold dropS at hQ
  have hIT := hI.1.2.2.2
  have n0 := hIT.1
  have n1 := hIT.2.1
  refine isSub_sp h hI (fun h1 => ⟨fun z => absurd z (by decide), fun _ => records_sp h hI (fun m1 hf1 hM => takes_sp hM.1.2.2.2 hIT (fun m2 hf2 _ _ hR _ => ?_))⟩) (fun h1 => ⟨fun _ => ?_, fun z => absurd rfl z⟩)
  · rw [if_neg (fun z => z h1)] at hQ
    have hM2 := hM.scr hf2
    have hR : RwM m2 W.A.tn W.A.T (fun i => 2 * i) := hR
    rintro had rfl
    rw [hR.1]
    refine empties_sp hR n0 n1 (fun m3 hf3 h90 hOld _ => ?_)
    intro P hP
    refine lq2 (P := P) (fun k _ => (W.A.tn - k).toNat) (fun k s => 0 ≤ k ∧ k ≤ W.A.tn ∧ frW m2 s ∧ (∀ j, 0 ≤ j → j < W.A.tn → OldM s j (W.A.T j) (2 * j)) ∧ RwM s (cntS i k) (delF W.A.T i) (delF (fun j => 2 * j) i)) ?_ 0 m3 ⟨by omega, n0, hf3, hOld, by unfold cntS; rw [if_pos h1.1]; exact h90, fun j j0 j1 => by unfold cntS at j1; rw [if_pos h1.1] at j1; omega⟩
    rintro k s ⟨k0, k1, q1, q2, q3⟩ ih
    have next : ∀ s2, frW s s2 → (∀ a, 287 ≤ a → ∀ j, gI s2 a j = gI s a j) → RwM s2 (cntS i (k + 1)) (delF W.A.T i) (delF (fun j => 2 * j) i) → k < W.A.tn → wj_X10_drop_56 P i W.A.tn k s2 Q := fun s2 hf4 hc4 hR4 hk =>
      ⟨rgO (by omega) (by omega), ih (k + 1) s2 ⟨by omega, by omega, q1.trans hf4, fun j j0 j1 => RowX.kept (q2 j j0 j1) hf4.1.1 (hc4 _ (by omega) _) (hc4 _ (by omega) _) (hc4 _ (by omega) _) (hc4 _ (by omega) _) (hc4 _ (by omega) _), hR4⟩ (by omega)⟩
    refine hP k s ⟨fun z => ?_, fun z => ⟨fun y => next s (frW.rf s) (fun _ _ _ => rfl) ?_ (by omega), fun y => ⟨k0, by omega, k0, by omega, reb_step hIT h1.1 h1.2 k0 (by omega) y q3 (q2 k k0 (by omega)) (fun s2 a b c => next s2 a b c (by omega))⟩⟩⟩
    · have ek : cntS i k = W.A.tn - 1 := by unfold cntS; rw [if_neg (by omega)]; omega
      rw [ek] at q3
      refine lays_sp q3 (hIT.del h1.1 h1.2) (hM2.scr q1.1) hI.push (fun m5 hc5 hM5 => ⟨by omega, by omega, ?_⟩)
      have e42 : gI m5 280 42 = W.A.tn - 1 := hM5.1.2.2.2.1
      rw [e42]
      exact hQ m5 hM5
    · have : cntS i (k + 1) = cntS i k := by unfold cntS; rw [if_neg (by omega), if_pos (by omega)]; omega
      rw [this]; exact q3
  · rw [if_pos h1] at hQ; exact hQ m h
theorem m_move (h : MoC m W) (hI : InvW W) {i b e : Int} {Q : Int → Sg → Prop} (hQ : ∀ m', MoC m' (moveS W i b e).W → Q (moveS W i b e).r m') : wp_X10_move i b e m Q := by
  have hinv := inv_move hI i b e
  unfold moveS at hQ hinv
  have hIT := hI.1.2.2.2
  have n0 := hIT.1
  have n1 := hIT.2.1
  refine isSub_sp h hI (fun h1 => ⟨fun z => absurd z (by decide), fun _ => areTimes_sp (fun h2 => ⟨fun z => absurd z (by decide), fun _ => records_sp h hI (fun m1 hf1 hM => takes_sp hM.1.2.2.2 hIT (fun m2 hf2 _ _ hR _ => ?_))⟩) (fun h2 => ⟨fun _ => ?_, fun z => absurd rfl z⟩)⟩) (fun h1 => ⟨fun _ => ?_, fun z => absurd rfl z⟩)
  · rw [if_neg (fun z => z ⟨h1.1, h1.2, h2⟩)] at hQ hinv
    have hM2 := hM.scr hf2
    have hR : RwM m2 W.A.tn W.A.T (fun i => 2 * i) := hR
    rintro had rfl
    rw [hR.1]
    refine empties_sp hR n0 n1 (fun m3 hf3 h90 hOld _ => ?_)
    intro P hP
    refine lq2 (P := P) (fun k _ => (W.A.tn - k).toNat) (fun k s => 0 ≤ k ∧ k ≤ W.A.tn ∧ frW m2 s ∧ (∀ j, 0 ≤ j → j < W.A.tn → OldM s j (W.A.T j) (2 * j)) ∧ RwM s (cntS i k) (delF W.A.T i) (delF (fun j => 2 * j) i)) ?_ 0 m3 ⟨by omega, n0, hf3, hOld, by unfold cntS; rw [if_pos h1.1]; exact h90, fun j j0 j1 => by unfold cntS at j1; rw [if_pos h1.1] at j1; omega⟩
    rintro k s ⟨k0, k1, q1, q2, q3⟩ ih
    have next : ∀ s2, frW s s2 → (∀ a, 287 ≤ a → ∀ j, gI s2 a j = gI s a j) → RwM s2 (cntS i (k + 1)) (delF W.A.T i) (delF (fun j => 2 * j) i) → k < W.A.tn → wj_X10_move_72 P i b e W.A.tn k s2 Q := fun s2 hf4 hc4 hR4 hk =>
      ⟨rgO (by omega) (by omega), ih (k + 1) s2 ⟨by omega, by omega, q1.trans hf4, fun j j0 j1 => RowX.kept (q2 j j0 j1) hf4.1.1 (hc4 _ (by omega) _) (hc4 _ (by omega) _) (hc4 _ (by omega) _) (hc4 _ (by omega) _) (hc4 _ (by omega) _), hR4⟩ (by omega)⟩
    refine hP k s ⟨fun z => ?_, fun z => ⟨fun y => next s (frW.rf s) (fun _ _ _ => rfl) ?_ (by omega), fun y => ⟨k0, by omega, k0, by omega, reb_step hIT h1.1 h1.2 k0 (by omega) y q3 (q2 k k0 (by omega)) (fun s2 a b c => next s2 a b c (by omega))⟩⟩⟩
    · have ek : cntS i k = W.A.tn - 1 := by unfold cntS; rw [if_neg (by omega)]; omega
      rw [ek] at q3
      have hl := posS_le (bgS (delF W.A.T i)) b (W.A.tn - 1).toNat
      refine inserts_sp q3 (by omega) (by omega) h1.1 (by omega) (q2 i h1.1 h1.2) (fun m4 hf4 hc4 hR4 => ?_)
      rw [show W.A.tn - 1 + 1 = W.A.tn by omega] at hR4
      refine lays_sp hR4 hinv.1.2.2.2 (hM2.scr (q1.1.trans hf4.1)) hI.push (fun m5 hc5 hM5 => ⟨rgO (by omega) (by omega), placeOf_sp (k := posS (bgS (delF W.A.T i)) b (W.A.tn - 1).toNat) (by omega) (by omega) ?_ (fun j j0 j1 => ?_) (hQ m5 hM5)⟩)
      · rw [hc5 285 (by omega) (by omega) (by omega)]
        refine (hR4.2 _ (by omega) (by omega)).2.1.1.trans ?_
        unfold insF
        rw [if_neg (by omega), if_pos rfl]
      · rw [hc5 285 (by omega) (by omega) (by omega)]
        have := (hR4.2 j j0 (by omega)).2.1.1
        rw [this]
        unfold insF
        rw [if_pos j1]
        unfold delF
        split <;> (dsimp only; omega)
    · have : cntS i (k + 1) = cntS i k := by unfold cntS; rw [if_neg (by omega), if_pos (by omega)]; omega
      rw [this]; exact q3
  · rw [if_pos (fun z => h2 z.2.2)] at hQ; exact hQ m h
  · rw [if_pos (fun z => h1 ⟨z.1, z.2.1⟩)] at hQ; exact hQ m h
theorem m_add (h : MoC m W) (hI : InvW W) {b e sp : Int} {Q : Int → Sg → Prop} (hQ : ∀ m', MoC m' (addS W b e sp).W → Q (addS W b e sp).r m') : wp_X10_add b e sp m Q := by
  have hinv := inv_add hI b e sp
  unfold addS at hQ hinv
  have hIT := hI.1.2.2.2
  have n0 := hIT.1
  have n1 := hIT.2.1
  have hb := hI.2.1
  have hwr := wbG_rg W.tb W.B W.tb.toNat 0
  refine areTimes_sp (fun h1 => ⟨fun z => absurd z (by decide), fun _ => in_sp (fun h2 => ⟨fun z => absurd z (by decide), fun _ => ⟨by omega, by omega, ?_⟩⟩) (fun h2 => ⟨fun _ => ?_, fun z => absurd rfl z⟩)⟩) (fun h1 => ⟨fun _ => ?_, fun z => absurd rfl z⟩)
  · rw [if_neg (fun z => z ⟨h1, h2⟩)] at hQ hinv
    rw [h.1.2.2.2.1, h.2.1.1]
    refine ⟨fun z => ?_, fun z => ⟨fun y => ?_, fun y => mWrong_sp h hI ⟨fun w => ?_, fun w => ?_⟩⟩⟩
    · rw [if_pos (by omega)] at hQ; exact hQ m h
    · rw [if_neg (by omega), if_pos y] at hQ
      refine ⟨fun _ => hQ m h, fun w => absurd (h.2.1.1.trans y) w⟩
    · rw [if_neg (by omega), if_neg y, if_neg (fun u => u w)] at hQ hinv
      refine records_sp h hI (fun m1 hf1 hM => takes_sp hM.1.2.2.2 hIT (fun m2 hf2 _ h9 hR h286 => ?_))
      have hR : RwM m2 W.A.tn W.A.T (fun i => 2 * i) := hR
      have hM2 := hM.scr hf2
      have tb2 : gI m2 279 3 = W.tb := hM2.2.1.1
      have tx2 : ∀ j, 0 ≤ j → j < W.tb → gI m2 281 j = W.B j := hM2.2.1.2
      have hTP := hM2.1.2.2.2
      have w1 : whB (2 * W.A.tn) = 43 + 87 * W.A.tn + 3 := by unfold whB; omega
      rintro x4 rfl
      rw [hR.1]
      refine ⟨rgO (by omega) (by omega), partAt_sp (by omega) (by omega) ?_⟩
      rw [w1]
      refine ⟨by omega, by omega, ?_⟩
      rintro s1 rfl
      refine ⟨rgO (by omega) (by omega), partAt_sp (by omega) (by omega) ?_⟩
      rw [w1]
      refine ⟨by omega, by omega, ?_⟩
      rintro s2 rfl
      rw [gI_sI_ne (by omega), tb2]
      intro P hP
      refine lq2 (P := P) (fun k _ => (W.tb - k).toNat) (fun k s => 0 ≤ k ∧ k ≤ W.tb ∧ (∀ a, a ≠ 280 → ∀ j, gI s a j = gI m2 a j) ∧ (∀ j, j < 43 + 87 * W.A.tn + 3 ∨ 43 + 87 * W.A.tn + 45 ≤ j → gI s 280 j = gI m2 280 j) ∧ gI s 280 (43 + 87 * W.A.tn + 3) = sp ∧ gI s 280 (43 + 87 * W.A.tn + 3 + 1) = W.tb ∧ ∀ j, 0 ≤ j → j < k → gI s 280 (43 + 87 * W.A.tn + 3 + 2 + j) = W.B j) ?_ 0 _ ⟨by omega, hb.1, fun a ha j => by rw [gI_sI_ne ha, gI_sI_ne ha], fun j hj => by rw [gI_sI_nj (by omega), gI_sI_nj (by omega)], by rw [gI_sI_nj (by omega), gI_sI_self], gI_sI_self _ _ _ _, fun j j0 j1 => by omega⟩
      rintro k s ⟨k0, k1, q1, q2, q3, q4, q5⟩ ih
      refine hP k s ?_
      rw [q1 279 (by omega), tb2]
      refine ⟨fun v => ⟨by omega, by omega, ?_⟩, fun v => ⟨rgO (by omega) (by omega), partAt_sp (by omega) (by omega) ⟨k0, by omega, ?_⟩⟩⟩
      · rintro t1 rfl
        refine ⟨by omega, by omega, rgO (by omega) (by omega), ?_⟩
        rintro t2 rfl
        refine ⟨by omega, by omega, rgO (by omega) (by omega), ?_⟩
        rintro t3 rfl
        have ek : k = W.tb := by omega
        subst ek
        -- the page with the new text on it
        have hMs : MoC s (pushW W) := by
          have := hM2.pg hI.push (m' := s) (A := W.A) ⟨q1, fun j hj => q2 j (by omega)⟩ ⟨hM2.1.1.congr hI.1.1.2.1 (fun j j0 j1 => q2 j (by omega)), hM2.1.2.1.congr hI.1.2.1.2.1 (fun j j0 j1 => q2 j (by omega)), hM2.1.2.2.1.congr (fun j j0 j1 => q2 j (by omega)), (q2 42 (by omega)).trans hTP.1, fun i i0 i1 => (hTP.2 i i0 i1).congr (hIT.2.2.1 i i0 i1) (fun j j0 j1 => q2 j (by have i1 : i < W.A.tn := i1; omega))⟩
          exact this
        have hRs : RwM s W.A.tn W.A.T (fun i => 2 * i) := by
          refine ⟨(q1 279 (by omega) 9).trans hR.1, fun i i0 i1 => ?_⟩
          obtain ⟨⟨r1, r2, r3⟩, ⟨r4, r5, r6, r7⟩, r8, r9, r10⟩ := hR.2 i i0 i1
          have e6 : gI m2 286 i = 2 * i + 1 := h286 i i0 i1
          have hIS := hIT.2.2.1 i i0 i1
          have w2 : whB (2 * i) = 43 + 87 * i + 3 := by unfold whB; omega
          have w3 : whB (2 * i + 1) = 43 + 87 * i + 45 := by unfold whB; omega
          unfold RowM RowX
          rw [q1 282 (by omega), q1 283 (by omega), q1 284 (by omega), q1 285 (by omega), q1 286 (by omega)]
          refine ⟨⟨r1, r2, r3⟩, ⟨r4, r5, r6, r7.congr hIS.2.2.2.2.1.2.2.2.1 (fun j j0 j1 => q2 j (by rw [w2] at j0 j1; omega))⟩, r8, r9, fun u => ?_⟩
          rw [e6]
          have := r10 u
          rw [e6] at this
          exact this.congr (hIS.2.2.2.2.2 u).2.2.2.1 (fun j j0 j1 => q2 j (by rw [w3] at j0 j1; omega))
        have ft : frW s (sI (sI (sI s 289 W.A.tn 1) 290 W.A.tn (2 * W.A.tn)) 291 W.A.tn (2 * W.A.tn + 1)) := (frW.sI (by omega)).trans ((frW.sI (by omega)).trans (frW.sI (by omega)))
        have pgt : gI (sI (sI (sI s 289 W.A.tn 1) 290 W.A.tn (2 * W.A.tn)) 291 W.A.tn (2 * W.A.tn + 1)) 280 = gI s 280 := funext ft.1.1
        have hRt : RwM (sI (sI (sI s 289 W.A.tn 1) 290 W.A.tn (2 * W.A.tn)) 291 W.A.tn (2 * W.A.tn + 1)) W.A.tn W.A.T (fun i => 2 * i) := hRs.kept ft.1.1 (by rw [gI_sI_ne (by omega), gI_sI_ne (by omega), gI_sI_ne (by omega)]) (fun a a0 a1 j => by rw [gI_sI_ne (by omega), gI_sI_ne (by omega), gI_sI_ne (by omega)])
        have hOt : OldM (sI (sI (sI s 289 W.A.tn 1) 290 W.A.tn (2 * W.A.tn)) 291 W.A.tn (2 * W.A.tn + 1)) W.A.tn (mkS (gI s 287 W.A.tn) (gI s 288 W.A.tn) 1 (mkP0 sp W.tb W.B) (mkP0 sp W.tb W.B)) (2 * W.A.tn) := by
          have e5 : gI (sI (sI (sI s 289 W.A.tn 1) 290 W.A.tn (2 * W.A.tn)) 291 W.A.tn (2 * W.A.tn + 1)) 291 W.A.tn = 2 * W.A.tn + 1 := gI_sI_self _ _ _ _
          unfold OldM RowX
          rw [e5, pgt, w1]
          refine ⟨⟨?_, ?_, ?_⟩, ⟨?_, by omega, by omega, q3, q4, q5⟩, by omega, by omega, fun u => absurd u (by show ¬ (1 : Int) = 2; omega)⟩
          · rw [gI_sI_ne (by omega), gI_sI_ne (by omega), gI_sI_ne (by omega)]; rfl
          · rw [gI_sI_ne (by omega), gI_sI_ne (by omega), gI_sI_ne (by omega)]; rfl
          · rw [gI_sI_ne (by omega), gI_sI_ne (by omega), gI_sI_self]; rfl
          · rw [gI_sI_ne (by omega), gI_sI_self]
        have hl := posS_le (bgS W.A.T) b W.A.tn.toNat
        refine inserts_sp hRt n0 (by omega) n0 (by omega) hOt (fun m4 hf4 hc4 hR4 => lays_sp hR4 hinv.1.2.2.2 (hMs.scr (ft.1.trans hf4.1)) hI.push (fun m5 hc5 hM5 => ⟨rgO (by omega) (by omega), placeOf_sp (k := posS (bgS W.A.T) b W.A.tn.toNat) (by omega) (by omega) ?_ (fun j j0 j1 => ?_) (hQ m5 hM5)⟩))
        · rw [hc5 285 (by omega) (by omega) (by omega)]
          refine (hR4.2 _ (by omega) (by omega)).2.1.1.trans ?_
          unfold insF
          rw [if_neg (by omega), if_pos rfl]
        · rw [hc5 285 (by omega) (by omega) (by omega)]
          have := (hR4.2 j j0 (by omega)).2.1.1
          rw [this]
          unfold insF
          rw [if_pos j1]
          dsimp only
          omega
      · rw [w1]
        refine ⟨by omega, by omega, ?_⟩
        rintro t1 rfl
        rw [q1 281 (by omega), tx2 k k0 (by omega)]
        refine ⟨rgO (by omega) (by omega), ih (k + 1) _ ⟨by omega, by omega, fun a ha j => (gI_sI_ne ha).trans (q1 a ha j), fun j hj => by rw [gI_sI_nj (by omega)]; exact q2 j hj, by rw [gI_sI_nj (by omega)]; exact q3, by rw [gI_sI_nj (by omega)]; exact q4, fun j j0 j1 => ?_⟩ (by omega)⟩
        by_cases ej : j = k
        · rw [ej, gI_sI_self]
        · rw [gI_sI_nj (by omega)]; exact q5 j j0 (by omega)
    · rw [if_neg (by omega), if_neg y, if_pos w] at hQ
      refine ⟨fun u => absurd (h.2.1.1.symm.trans u) y, fun _ => mWrong_sp h hI ⟨?_, hQ m h⟩⟩
      have hwr2 := hwr.resolve_left w
      have : wbQ W = wbG W.tb W.B W.tb.toNat 0 := rfl
      exact rgO (by omega) (by omega)
  · rw [if_pos (fun z => h2 z.2)] at hQ; exact hQ m h
  · rw [if_pos (fun z => h1 z.1)] at hQ; exact hQ m h
end MCALLS
