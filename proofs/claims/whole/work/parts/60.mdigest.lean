/-! the reference's calls: what they tell; its digest -/
section MDIGEST
variable {m : Sg} {W : Wd}
theorem pg_of (h : MoC m W) : PgM m W.A := ⟨h.1.1, h.1.2.1, h.1.2.2.1⟩
theorem m_subtitle (h : MoC m W) (hI : InvW W) {i x : Int} {Q : Int → Sg → Prop} (hQ : ∀ m', MoC m' W → Q (subQ W.A i x) m') : wp_X10_subtitle i x m Q := by
  unfold subQ at hQ
  have hIT := hI.1.2.2.2
  have n1 := hIT.2.1
  refine isSub_sp h hI (fun h1 => ⟨fun z => absurd z (by decide), fun _ => in_sp (fun h2 => ⟨fun z => absurd z (by decide), fun _ => takes_sp h.1.2.2.2 hIT (fun m2 hf2 _ _ hR _ => ?_)⟩) (fun h2 => ⟨fun _ => ?_, fun z => absurd rfl z⟩)⟩) (fun h1 => ⟨fun _ => ?_, fun z => absurd rfl z⟩)
  · rw [if_neg (fun z => z h1)] at hQ
    have hM2 := h.scr hf2
    have hrow := hR.2 i h1.1 h1.2
    have hIS := hIT.2.2.1 i h1.1 h1.2
    have hq := hQ m2 hM2
    refine ⟨fun z => ⟨h1.1, by omega, ?_⟩, fun z => ⟨h1.1, by omega, ?_⟩, fun z => ⟨h1.1, by omega, ?_⟩, fun z => mChars_sp hrow hIS h1.1 (by omega) ?_, fun z => mReading_sp (pg_of hM2) hI.1.2.2.1 hrow hIS h1.1 (by omega) ?_, fun z => mFaults_sp (pg_of hM2) hI.1 hR h1.1 h1.2 ?_, fun z => mNext_sp hR n1 h1.1 h1.2 ?_⟩
    · rw [if_pos z] at hq; rw [hrow.1.1]; exact hq
    · rw [if_neg (by omega), if_pos z] at hq; rw [hrow.1.2.1]; exact hq
    · rw [if_neg (by omega), if_neg (by omega), if_pos z] at hq; rw [hrow.1.2.2]; exact hq
    · rw [if_neg (by omega), if_neg (by omega), if_neg (by omega), if_pos z] at hq; exact hq
    · rw [if_neg (by omega), if_neg (by omega), if_neg (by omega), if_neg (by omega), if_pos z] at hq; exact hq
    · rw [if_neg (by omega), if_neg (by omega), if_neg (by omega), if_neg (by omega), if_neg (by omega), if_pos z] at hq; exact hq
    · rw [if_neg (by omega), if_neg (by omega), if_neg (by omega), if_neg (by omega), if_neg (by omega), if_neg (by omega), if_pos (by omega)] at hq; exact hq
  · rw [if_neg (fun z => z h1), if_neg (by omega), if_neg (by omega), if_neg (by omega), if_neg (by omega), if_neg (by omega), if_neg (by omega), if_neg (by omega)] at hQ; exact hQ m h
  · rw [if_pos h1] at hQ; exact hQ m h
theorem part_at (h : MoC m W) (hI : InvW W) {i p : Int} (i0 : 0 ≤ i) (i1 : i < W.A.tn) (p0 : 0 ≤ p) (p1 : p ≤ 1) (p2 : p < (W.A.T i).p) : PtP (gI m 280) (whB (2 * i + p)) (if p = 0 then (W.A.T i).one else (W.A.T i).two) ∧ InvPt (if p = 0 then (W.A.T i).one else (W.A.T i).two) := by
  have hS := h.1.2.2.2.2 i i0 i1
  have hIS := hI.1.2.2.2.2.2.1 i i0 i1
  by_cases e : p = 0
  · rw [if_pos e, e]
    have w : whB (2 * i + 0) = 43 + 87 * i + 3 := by unfold whB; omega
    rw [w]
    exact ⟨hS.2.1, hIS.2.2.2.2.1⟩
  · have ep : p = 1 := by omega
    have e2 : (W.A.T i).p = 2 := hIS.2.2.2.1.resolve_left (by omega)
    rw [if_neg e, ep]
    have w : whB (2 * i + 1) = 43 + 87 * i + 45 := by unfold whB; omega
    rw [w]
    exact ⟨hS.2.2 e2, hIS.2.2.2.2.2 e2⟩
theorem m_part (h : MoC m W) (hI : InvW W) {i p x : Int} {Q : Int → Prop} (xr : x ≤ 2147483647) (hQ : Q (partQ W.A i p x)) : wp_X10_part i p x m Q := by
  unfold partQ at hQ
  have bv := hI.1.2.2.1.rg
  have n1 := hI.1.2.2.2.2.1
  refine isSub_sp h hI (fun h1 => ⟨fun z => absurd z (by decide), fun _ => in_sp (fun h2 => ⟨fun z => absurd z (by decide), fun _ => ⟨fun z => ?_, fun z => in_sp (fun h3 => ⟨fun y => absurd y (by decide), fun _ => ?_⟩) (fun h3 => ⟨fun _ => mAt_sp h1.1 (by omega) ⟨by omega, by omega, ?_⟩, fun y => absurd rfl y⟩)⟩⟩) (fun h2 => ⟨fun _ => ?_, fun z => absurd rfl z⟩)⟩) (fun h1 => ⟨fun _ => ?_, fun z => absurd rfl z⟩)
  · rw [if_pos (fun w => by omega)] at hQ; exact hQ
  · rw [if_pos (fun w => by omega)] at hQ; exact hQ
  · rw [if_neg (fun w => w ⟨h1.1, h1.2, h2.1, h2.2, by omega, by omega⟩)] at hQ
    have ep := (h.1.2.2.2.2 i h1.1 h1.2).1.2.2
    rw [ep]
    refine ⟨fun y => ⟨rgO (by omega) (by omega), ?_⟩, fun y => ?_⟩
    · rw [if_neg (by omega)] at hQ
      have g := part_at h hI h1.1 h1.2 h2.1 h2.2 y
      exact mPartOf_sp g.1 g.2 (by omega) (by omega) h.1.2.2.1 (by omega) (by omega) (by omega) (by omega) xr hQ
    · rw [if_pos (by omega)] at hQ; exact hQ
  · rw [if_pos (fun w => h2 ⟨w.2.2.1, w.2.2.2.1⟩)] at hQ; exact hQ
  · rw [if_pos (fun w => h1 ⟨w.1, w.2.1⟩)] at hQ; exact hQ
theorem m_conform (h : MoC m W) (hI : InvW W) {x : Int} {Q : Int → Sg → Prop} (hQ : ∀ m', MoC m' (conformS W x).W → Q (conformS W x).r m') : wp_X10_conform x m Q := by
  unfold conformS at hQ
  refine in_sp (fun h1 => ⟨fun z => absurd z (by decide), fun _ => conforms_sp h hI (fun m1 hf1 hfu => ⟨fun _ => ?_, fun z => absurd rfl z⟩) (fun m1 hf1 hfu hl hR => ⟨fun z => absurd z (by decide), fun _ => records_sp (h.scr hf1) hI (fun m2 hf2 hM2 => ?_)⟩)⟩) (fun h1 => ⟨fun _ => ?_, fun z => absurd rfl z⟩)
  · rw [if_neg (fun z => z h1), if_pos hfu] at hQ; exact hQ m1 (h.scr hf1)
  · rw [if_neg (fun z => z h1), if_neg hfu] at hQ
    have hIr := r5S_inv hI.1 hfu
    obtain ⟨O, hR⟩ := hR
    have hR2 : RwM m2 (r5S W.A x).tn (r5S W.A x).T O := by
      refine ⟨(hf2.2.1 9 (by omega)).trans hR.1, fun i i0 i1 => ?_⟩
      obtain ⟨⟨r1, r2, r3⟩, ⟨r4, r5, r6, r7⟩, r8, r9, r10⟩ := hR.2 i i0 i1
      have hIS := hIr.2.2.2.2.2.1 i i0 i1
      unfold RowM RowX
      rw [hf2.1 282 (by omega) (by omega), hf2.1 283 (by omega) (by omega), hf2.1 284 (by omega) (by omega), hf2.1 285 (by omega) (by omega), hf2.1 286 (by omega) (by omega)]
      have w1 := whB_rg r5 r6
      have w2 := whB_rg r8 r9
      exact ⟨⟨r1, r2, r3⟩, ⟨r4, r5, r6, r7.congr hIS.2.2.2.2.1.2.2.2.1 (fun j j0 j1 => hf2.2.2 j (by omega) (by omega))⟩, r8, r9, fun u => (r10 u).congr (hIS.2.2.2.2.2 u).2.2.2.1 (fun j j0 j1 => hf2.2.2 j (by omega) (by omega))⟩
    refine lays_sp hR2 hIr.2.2.2 hM2 hI.push (fun m3 hc3 hM3 => ?_)
    have e9 : gI m3 279 9 = (r5S W.A x).tn := (hc3 279 (by omega) (by omega) (by omega) 9).trans hR2.1
    rw [e9]
    have same : setT (pushW W).A (r5S W.A x).tn (r5S W.A x).T = r5S W.A x := by
      obtain ⟨a1, a2, a3, a4, a5, a6⟩ := r_same W.A x _ (Or.inr (Or.inr (Or.inr (Or.inr rfl))))
      show mkA W.A.pn W.A.F W.A.L W.A.sn W.A.f W.A.v (r5S W.A x).tn (r5S W.A x).T = r5S W.A x
      rw [← a1, ← a2, ← a3, ← a4, ← a5, ← a6]
      rfl
    rw [same] at hM3
    exact hQ m3 hM3
  · rw [if_pos h1] at hQ; exact hQ m h
theorem geS_rg {n : Int} {T : Int → Sb} (hT : InvTr n T) : ∀ k : Nat, (k : Int) ≤ n → 0 ≤ fdS (geS T) k ∧ fdS (geS T) k ≤ 9999 := by
  intro k
  induction k with
  | zero => intro _; exact ⟨Int.le_refl _, by show (0 : Int) ≤ 9999; omega⟩
  | succ k ih =>
    intro hk
    have h1 := ih (by omega)
    have h2 := rgb (hT.2.2.1 (k : Int) (by omega) (by omega))
    show 0 ≤ max (fdS (geS T) k) (T (k : Int)).e ∧ max (fdS (geS T) k) (T (k : Int)).e ≤ 9999
    omega
theorem m_ifConform (h : MoC m W) (hI : InvW W) {x kk : Int} {Q : Int → Sg → Prop} (hQ : ∀ m', MoC m' W → Q (icQ W.A x kk) m') : wp_X10_ifConform x kk m Q := by
  unfold icQ icV at hQ
  refine in_sp (fun h1 => ⟨fun z => absurd z (by decide), fun _ => in_sp (fun h2 => ⟨fun z => absurd z (by decide), fun _ => conforms_sp h hI (fun m1 hf1 hfu => ⟨fun _ => ?_, fun z => absurd rfl z⟩) (fun m1 hf1 hfu hl hR => ⟨fun z => absurd z (by decide), fun _ => ?_⟩)⟩) (fun h2 => ⟨fun _ => ?_, fun z => absurd rfl z⟩)⟩) (fun h1 => ⟨fun _ => ?_, fun z => absurd rfl z⟩)
  · rw [if_neg (fun z => z ⟨h1.1, h1.2, h2.1, h2.2⟩), if_pos hfu] at hQ; exact hQ m1 (h.scr hf1)
  · rw [if_neg (fun z => z ⟨h1.1, h1.2, h2.1, h2.2⟩), if_neg hfu] at hQ
    have hM1 := h.scr hf1
    have hq := hQ m1 hM1
    have hIr := r5S_inv hI.1 hfu
    have hPr : PgM m1 (r5S W.A x) := by
      obtain ⟨a1, a2, a3, a4, a5, a6⟩ := r_same W.A x _ (Or.inr (Or.inr (Or.inr (Or.inr rfl))))
      have := pg_of hM1
      unfold PgM at this ⊢
      rw [a1, a2, a3, a4, a5, a6]
      exact this
    obtain ⟨O, hR⟩ := hR
    generalize r5S W.A x = B at *
    have hIT := hIr.2.2.2
    have n0 := hIT.1
    have n1 := hIT.2.1
    intro P hP
    refine lq4 (P := P) (fun _ _ _ k => (B.tn - k).toNat) (fun a w l k => 0 ≤ k ∧ k ≤ B.tn ∧ a = smS (lnS B.T) k.toNat ∧ w = fdS (cfS B (-1)) k.toNat ∧ l = fdS (geS B.T) k.toNat) ?_ 0 0 0 0 ⟨by omega, n0, rfl, rfl, rfl⟩
    rintro a w l k ⟨k0, k1, rfl, rfl, rfl⟩ ih
    refine hP _ _ _ k ?_
    rw [hR.1]
    refine ⟨fun z => ?_, fun z => ?_⟩
    · have ek : k = B.tn := by omega
      subst ek
      refine ⟨fun y => ?_, fun y => ⟨fun y2 => ?_, fun y2 => ⟨fun y3 => ?_, fun y3 => ⟨fun y4 => ?_, fun y4 => ?_⟩⟩⟩⟩
      · rw [if_pos y] at hq; exact hq
      · rw [if_neg y, if_pos y2] at hq; exact hq
      · rw [if_neg y, if_neg y2, if_pos y3] at hq; exact hq
      · rw [if_neg y, if_neg y2, if_neg y3, if_pos y4] at hq; exact hq
      · rw [if_neg y, if_neg y2, if_neg y3, if_neg y4] at hq
        rw [hl]; exact hq
    · have hk : k < B.tn := by omega
      have hrow := hR.2 k k0 hk
      have b := rgb (hIT.2.2.1 k k0 hk)
      have e1 := smS_succ (lnS B.T) k0
      have e2 := fdS_succ (cfS B (-1)) k0
      have e3 := fdS_succ (geS B.T) k0
      have s1 := lnS_sum hIT (k := k + 1) (by omega) (by omega)
      have s2 := cfS_rg B (-1) k.toNat
      have s3 := geS_rg hIT k.toNat (by omega)
      have el : lnS B.T k = (B.T k).e - (B.T k).b := rfl
      refine ⟨k0, by omega, k0, by omega, ?_⟩
      rw [hrow.1.1, hrow.1.2.1, ← el, ← e1]
      rintro x3 rfl
      refine ⟨rgO (by omega) (by omega), mFaults_sp hPr hIr hR k0 hk ?_⟩
      have fr := ftS_rg B k
      have am := jAnd_m1 (x := ftS B k) (rgO (by omega) (by omega))
      have fin : ∀ t0, fdS (cfS B (-1)) k.toNat + t0 = fdS (cfS B (-1)) (k + 1).toNat → wj_X10_wouldBe_65 P kk (smS (lnS B.T) (k + 1).toNat) (fdS (geS B.T) k.toNat) k t0 (fdS (cfS B (-1)) k.toNat) m1 Q := fun t0 et => by
        have s4 := cfS_rg B (-1) (k + 1).toNat
        rw [← et] at s4
        rintro x4 rfl
        rw [hrow.1.2.1]
        have done : ∀ l, l = fdS (geS B.T) (k + 1).toNat → wj_X10_wouldBe_92 P kk (smS (lnS B.T) (k + 1).toNat) (fdS (cfS B (-1)) k.toNat + t0) k l m1 Q := fun l hl2 =>
          ⟨rgO (by omega) (by omega), ih _ _ _ (k + 1) ⟨by omega, by omega, rfl, et, hl2⟩ (by omega)⟩
        have eg : fdS (geS B.T) (k + 1).toNat = max (fdS (geS B.T) k.toNat) (B.T k).e := e3
        exact ⟨rgO (by omega) (by omega), k0, by omega, fun y => done _ (by omega), fun y => ⟨k0, by omega, done _ (by omega)⟩⟩
      have ec : fdS (cfS B (-1)) (k + 1).toNat = if ftS B k = 0 then fdS (cfS B (-1)) k.toNat else fdS (cfS B (-1)) k.toNat + 1 := by
        rw [e2]
        show (if jAnd (ftS B k) (-1) = 0 then _ else _) = _
        rw [am]
      exact ⟨fun y => fin 0 (by rw [ec, if_pos (by omega)]; omega), fun y => fin 1 (by rw [ec, if_neg (by omega)])⟩
  · rw [if_pos (fun w => h2 ⟨w.2.2.1, w.2.2.2⟩)] at hQ; exact hQ m h
  · rw [if_pos (fun w => h1 ⟨w.1, w.2.1⟩)] at hQ; exact hQ m h
theorem m_stretches (h : MoC m W) (hI : InvW W) {i : Int} {Q : Int → Sg → Prop} (hQ : ∀ m', MoC m' W → Q (strQ W.A i) m') : wp_X10_stretches i m Q := by
  unfold strQ at hQ
  have n1 := hI.1.2.2.2.2.1
  refine isSub_sp h hI (fun h1 => ⟨fun z => absurd z (by decide), fun _ => mAt_sp h1.1 (by omega) ⟨by omega, by omega, mAt_sp h1.1 (by omega) ⟨by omega, by omega, ?_⟩⟩⟩) (fun h1 => ⟨fun _ => ?_, fun z => absurd rfl z⟩)
  · rw [if_neg (fun z => z h1)] at hQ
    have hS := (h.1.2.2.2.2 i h1.1 h1.2).1
    rw [hS.1, hS.2.1]
    refine stretchesOf_sp (S := W.A.T i) (X := W.A.T) (cn := 0) (o := 0) (pg_of h) hI.1.1 (hI.1.2.2.2.2.2.1 i h1.1 h1.2) (fun z => absurd rfl z) (Int.le_refl _) (fun z => absurd rfl z) (fun z => absurd rfl z) (fun s hE => ?_)
    rw [hE.2.2.2.1]
    exact hQ s (h.scr hE.1)
  · rw [if_pos h1] at hQ; exact hQ m h
theorem jOr_0 {x : Int} (h : rgI x) : jOr x 0 = x := by
  unfold jOr
  have e : jI x ||| jI 0 = jI x := by
    show jI x ||| (0 : Int32) = jI x
    exact Int32.or_zero
  rw [e, jI_toInt h]
theorem shwS_rg (T : Int → Sb) (x : Int) : ∀ k : Nat, rgI (fdS (shwS T x) k) := by
  intro k
  induction k with
  | zero => exact rgI_0
  | succ k ih =>
    show rgI (if (T (k : Int)).b ≤ x ∧ x < (T (k : Int)).e then jOr (fdS (shwS T x) k) (jShl 1 (k : Int)) else fdS (shwS T x) k)
    split
    · exact rg_or _ _
    · exact ih
theorem m_shown (h : MoC m W) (hI : InvW W) {x : Int} {Q : Int → Sg → Prop} (hQ : ∀ m', MoC m' W → Q (shownQ W.A x) m') : wp_X10_shown x m Q := by
  unfold shownQ at hQ
  have hIT := hI.1.2.2.2
  have n0 := hIT.1
  have n1 := hIT.2.1
  refine in_sp (fun h1 => ⟨fun z => absurd z (by decide), fun _ => takes_sp h.1.2.2.2 hIT (fun m1 hf1 _ _ hR _ => ?_)⟩) (fun h1 => ⟨fun _ => ?_, fun z => absurd rfl z⟩)
  · rw [if_neg (fun z => z h1)] at hQ
    have hq := hQ m1 (h.scr hf1)
    intro P hP
    refine lq2 (P := P) (fun _ k => (W.A.tn - k).toNat) (fun u k => 0 ≤ k ∧ k ≤ W.A.tn ∧ u = fdS (shwS W.A.T x) k.toNat) ?_ 0 0 ⟨by omega, n0, rfl⟩
    rintro u k ⟨k0, k1, rfl⟩ ih
    have e := hR.1
    refine hP _ k ⟨fun z => ?_, fun z => ⟨k0, by omega, ?_⟩⟩
    · rw [show k = W.A.tn by omega]; exact hq
    · have hk : k < W.A.tn := by omega
      have hrow := (hR.2 k k0 hk).1
      rw [hrow.1, hrow.2.1]
      have e1 := fdS_succ (shwS W.A.T x) k0
      have skip : ¬ ((W.A.T k).b ≤ x ∧ x < (W.A.T k).e) → wj_X10_shown_56 P x k (fdS (shwS W.A.T x) k.toNat) m1 Q := fun y => by
        rintro w rfl
        rw [jOr_0 (shwS_rg W.A.T x k.toNat)]
        exact ⟨rgO (by omega) (by omega), ih _ (k + 1) ⟨by omega, by omega, by rw [e1]; exact (if_neg y).symm⟩ (by omega)⟩
      refine ⟨fun y => skip (by omega), fun y => ⟨k0, by omega, fun y2 => skip (by omega), fun y2 => ?_⟩⟩
      rintro w rfl
      exact ⟨rgO (by omega) (by omega), ih _ (k + 1) ⟨by omega, by omega, by rw [e1]; exact (if_pos ⟨by omega, by omega⟩).symm⟩ (by omega)⟩
  · rw [if_pos h1] at hQ; exact hQ m h
theorem m_faults (h : MoC m W) (hI : InvW W) {x : Int} {Q : Int → Sg → Prop} (hQ : ∀ m', MoC m' W → Q (faultsQ W.A x) m') : wp_X10_faults x m Q := by
  unfold faultsQ at hQ
  have hIT := hI.1.2.2.2
  have n0 := hIT.1
  have n1 := hIT.2.1
  refine in_sp (fun h1 => ⟨fun z => absurd z (by decide), fun _ => ⟨fun z => ?_, fun z => ?_⟩⟩) (fun h1 => ⟨fun _ => ?_, fun z => absurd rfl z⟩)
  · have hF := (jAndF_iff h1.1 h1.2).mp z
    rw [if_neg (fun w => w hF)] at hQ
    refine takes_sp h.1.2.2.2 hIT (fun m1 hf1 _ _ hR _ => ?_)
    have hM1 := h.scr hf1
    have hq := hQ m1 hM1
    generalize hw : (if x = 0 then -1 else x) = w at *
    intro P hP
    refine lq2 (P := P) (fun _ k => (W.A.tn - k).toNat) (fun u k => 0 ≤ k ∧ k ≤ W.A.tn ∧ u = fdS (cfS W.A w) k.toNat) ?_ 0 0 ⟨by omega, n0, rfl⟩
    rintro u k ⟨k0, k1, rfl⟩ ih
    have e := hR.1
    refine hP _ k ⟨fun y => ?_, fun y => mFaults_sp (pg_of hM1) hI.1 hR k0 (by omega) ?_⟩
    · rw [show k = W.A.tn by omega]; exact hq
    · have e1 := fdS_succ (cfS W.A w) k0
      have s4 := cfS_rg W.A w (k + 1).toNat
      have s3 := cfS_rg W.A w k.toNat
      have fr := ftS_rg W.A k
      have ec : fdS (cfS W.A w) (k + 1).toNat = if jAnd (ftS W.A k) w = 0 then fdS (cfS W.A w) k.toNat else fdS (cfS W.A w) k.toNat + 1 := e1
      have fin : ∀ t0, fdS (cfS W.A w) k.toNat + t0 = fdS (cfS W.A w) (k + 1).toNat → wj_X10_faultsMany_53 P x k t0 (fdS (cfS W.A w) k.toNat) m1 Q := fun t0 et => by
        rintro v rfl
        exact ⟨rgO (by omega) (by omega), rgO (by omega) (by omega), ih _ (k + 1) ⟨by omega, by omega, et⟩ (by omega)⟩
      refine ⟨fun y2 => ?_, fun y2 => ?_⟩
      · rw [if_pos y2] at hw
        have am := jAnd_m1 (x := ftS W.A k) (rgO (by omega) (by omega))
        rw [← hw, am, hw] at ec
        exact ⟨fun y3 => fin 0 (by rw [ec, if_pos (by omega)]; omega), fun y3 => fin 1 (by rw [ec, if_neg (by omega)])⟩
      · rw [if_neg y2] at hw
        rw [← hw, hw] at ec
        rw [hw, jAnd_pos (x := ftS W.A k) (y := w) (rgO (by omega) (by omega)) (by omega)]
        exact ⟨fun y3 => fin 0 (by rw [ec, if_pos y3]; omega), fun y3 => fin 1 (by rw [ec, if_neg y3])⟩
  · rw [if_pos (fun w => z ((jAndF_iff h1.1 h1.2).mpr w))] at hQ; exact hQ m h
  · rw [if_pos (fun w => h1 (by omega))] at hQ; exact hQ m h
theorem doubles_sp {Q : Int → Prop} (h : MoC m W) (hI : InvW W) (hQ : Q (fdS (cpS W.A.T) W.A.tn.toNat)) : wp_X10_doubles m Q := by
  have hIT := hI.1.2.2.2
  have n0 := hIT.1
  have n1 := hIT.2.1
  intro P hP
  refine lq2 (P := P) (fun _ k => (W.A.tn - k).toNat) (fun u k => 0 ≤ k ∧ k ≤ W.A.tn ∧ u = fdS (cpS W.A.T) k.toNat) ?_ 0 0 ⟨by omega, n0, rfl⟩
  rintro u k ⟨k0, k1, rfl⟩ ih
  have e : gI m 280 42 = W.A.tn := h.1.2.2.2.1
  refine hP _ k ⟨by omega, by omega, ?_⟩
  rw [e]
  refine ⟨fun y => ?_, fun y => mAt_sp k0 (by omega) ⟨by omega, by omega, ?_⟩⟩
  · rw [show k = W.A.tn by omega]; exact hQ
  · rw [(h.1.2.2.2.2 k k0 (by omega)).1.2.2]
    have e1 : fdS (cpS W.A.T) (k + 1).toNat = if (W.A.T k).p = 2 then fdS (cpS W.A.T) k.toNat + 1 else fdS (cpS W.A.T) k.toNat := fdS_succ (cpS W.A.T) k0
    have b := cpS_rg W.A.T k.toNat
    have fin : ∀ t0, t0 = 0 ∨ t0 = 1 → fdS (cpS W.A.T) k.toNat + t0 = fdS (cpS W.A.T) (k + 1).toNat → wj_X10_doubles_37 P k t0 (fdS (cpS W.A.T) k.toNat) m Q := fun t0 ht et => by
      rintro v rfl
      exact ⟨rgO (by omega) (by omega), rgO (by omega) (by omega), ih _ (k + 1) ⟨by omega, by omega, et⟩ (by omega)⟩
    exact ⟨fun y2 => fin 1 (Or.inr rfl) (by rw [e1, if_pos y2]), fun y2 => fin 0 (Or.inl rfl) (by rw [e1, if_neg y2]; omega)⟩
theorem m_told (h : MoC m W) (hI : InvW W) {x : Int} {Q : Int → Prop} (hQ : Q (toldQ W x)) : wp_X10_told x m Q := by
  unfold toldQ at hQ
  refine ⟨fun z => ⟨by omega, by omega, ?_⟩, fun z => newLong_sp h.1.1 hI.1.1 ?_, fun z => ⟨by omega, by omega, ?_⟩, fun z => ⟨by omega, by omega, ?_⟩, fun z => doubles_sp h hI ?_, fun z => ?_, fun z => ?_, fun z => in_sp (fun h1 => ⟨fun y => absurd y (by decide), fun _ => setting_sp h.1.2.2.1 h1.1 (by omega) ?_⟩) (fun h1 => ⟨fun _ => ?_, fun y => absurd rfl y⟩)⟩
  · rw [if_neg (by omega), if_pos z] at hQ; rw [h.1.1.1]; exact hQ
  · rw [if_neg (by omega), if_neg (by omega), if_pos z] at hQ; exact hQ
  · rw [if_neg (by omega), if_neg (by omega), if_neg (by omega), if_pos z] at hQ; rw [h.1.2.1.1]; exact hQ
  · rw [if_neg (by omega), if_neg (by omega), if_neg (by omega), if_neg (by omega), if_pos z] at hQ; rw [h.1.2.2.2.1]; exact hQ
  · rw [if_neg (by omega), if_neg (by omega), if_neg (by omega), if_neg (by omega), if_neg (by omega), if_pos z] at hQ; exact hQ
  · rw [if_neg (by omega), if_neg (by omega), if_neg (by omega), if_neg (by omega), if_neg (by omega), if_neg (by omega), if_pos z] at hQ; rw [h.2.1.1]; exact hQ
  · rw [if_neg (by omega), if_neg (by omega), if_neg (by omega), if_neg (by omega), if_neg (by omega), if_neg (by omega), if_neg (by omega), if_pos z] at hQ; rw [h.2.2.1]; exact hQ
  · rw [if_pos h1] at hQ; exact hQ
  · rw [if_neg h1, if_neg (by omega), if_neg (by omega), if_neg (by omega), if_neg (by omega), if_neg (by omega), if_neg (by omega), if_neg (by omega)] at hQ; exact hQ
theorem mixed_sp (h : MoC m W) (hI : InvW W) {h0 i : Int} (i0 : 0 ≤ i) (i1 : i < W.A.tn) {Q : Int → Sg → Prop} (hQ : ∀ m', MoC m' W → Q (hbS W.A h0 i) m') : wp_X10_mixedSubtitle h0 i m Q := by
  have hIT := hI.1.2.2.2
  have n1 := hIT.2.1
  have hIS := hIT.2.2.1 i i0 i1
  have bv := hI.1.2.2.1.rg
  have e2 : subQ W.A i 2 = (W.A.T i).p := by
    unfold subQ
    rw [if_neg (fun z => z ⟨i0, i1⟩), if_neg (by omega), if_neg (by omega), if_pos rfl]
  have p12 := hIS.2.2.2.1
  intro P hP
  refine lq3 (P := P) (fun _ k _ => (7 - k).toNat) (fun u k s => 0 ≤ k ∧ k ≤ 7 ∧ u = hsG (fun x => subQ W.A i x) h0 k.toNat ∧ MoC s W) ?_ h0 0 m ⟨by omega, by omega, rfl, h⟩
  rintro u k s ⟨k0, k1, rfl, hM⟩ ih
  refine hP _ k s ⟨fun z => m_stretches hM hI (fun m1 hM1 => ?_), fun z => m_subtitle hM hI (fun m1 hM1 => ?_)⟩
  · have ek : k = 7 := by omega
    subst ek
    rintro u1 rfl
    intro P2 hP2
    have ep : gI m1 280 (43 + 87 * i + 2) = (W.A.T i).p := (hM1.1.2.2.2.2 i i0 i1).1.2.2
    refine lq2 (P := P2) (fun _ p => ((W.A.T i).p - p).toNat) (fun u p => 0 ≤ p ∧ p ≤ (W.A.T i).p ∧ u = nsG (hpS W.A i) (31 * hsG (fun x => subQ W.A i x) h0 (7 : Int).toNat + strQ W.A i) p.toNat) ?_ _ 0 ⟨by omega, by omega, rfl⟩
    rintro u p ⟨p0, p1, rfl⟩ ih2
    refine hP2 _ p (mAt_sp i0 (by omega) ⟨by omega, by omega, ?_⟩)
    rw [ep]
    refine ⟨fun z => ?_, fun z => ?_⟩
    · have := hQ m1 hM1
      unfold hbS at this
      rw [e2] at this
      rw [show p = (W.A.T i).p by omega]
      exact this
    · have hpl : p < (W.A.T i).p := by omega
      have hg := part_at hM1 hI i0 i1 p0 (by omega) hpl
      have pq : ∀ x, 0 ≤ x → (x ≤ 3 ∨ 10 ≤ x) → partQ W.A i p x = ptV (if p = 0 then (W.A.T i).one else (W.A.T i).two) (W.A.v 4) x := fun x x0 x1 => by
        unfold partQ
        rw [if_neg (fun w => w ⟨i0, i1, p0, by omega, x0, x1⟩), if_neg (by omega)]
      generalize (if p = 0 then (W.A.T i).one else (W.A.T i).two) = pt at *
      have hl := hg.2.2.2.2.1
      have hl1 := hg.2.2.2.1
      have el : partQ W.A i p 1 = pt.ln := by
        rw [pq 1 (by omega) (by omega)]
        unfold ptV
        rw [if_neg (by omega), if_pos rfl]
      intro P3 hP3
      refine lq2 (P := P3) (fun _ k => (4 - k).toNat) (fun u k => 0 ≤ k ∧ k ≤ 4 ∧ u = hsG (fun x => partQ W.A i p x) (nsG (hpS W.A i) (31 * hsG (fun x => subQ W.A i x) h0 (7 : Int).toNat + strQ W.A i) p.toNat) k.toNat) ?_ _ 0 ⟨by omega, by omega, rfl⟩
      rintro u k ⟨k0, k1, rfl⟩ ih3
      refine hP3 _ k ⟨fun z => ?_, fun z => ⟨rgO (by omega) (by omega), mPartOf_sp hg.1 hg.2 (by omega) (by omega) hM1.1.2.2.1 (by omega) (by omega) k0 (by omega) (by omega) ?_⟩⟩
      · have ek : k = 4 := by omega
        subst ek
        intro P4 hP4
        refine lq2 (P := P4) (fun _ b => (pt.ln - b).toNat) (fun u b => 0 ≤ b ∧ b ≤ pt.ln ∧ u = hsG (fun b => partQ W.A i p (10 + b)) (hsG (fun x => partQ W.A i p x) (nsG (hpS W.A i) (31 * hsG (fun x => subQ W.A i x) h0 (7 : Int).toNat + strQ W.A i) p.toNat) 4) b.toNat) ?_ _ 0 ⟨by omega, by omega, rfl⟩
        rintro u b ⟨b0, b1, rfl⟩ ih4
        refine hP4 _ b ⟨rgO (by omega) (by omega), longOf_sp hg.1 (by omega) (by omega) ⟨fun z => ⟨rgO (by omega) (by omega), ih2 _ (p + 1) ⟨by omega, by omega, ?_⟩ (by omega)⟩, fun z => ⟨rgO (by omega) (by omega), byteOf_sp hg.1 hg.2 (by omega) (by omega) b0 (by omega) ?_⟩⟩⟩
        · rw [nsG_succ _ _ p0, show b = pt.ln by omega]
          unfold hpS
          rw [el]
        · have eb : partQ W.A i p (10 + b) = pt.tx b := by
            rw [pq (10 + b) (by omega) (by omega)]
            unfold ptV
            rw [if_neg (by omega), if_neg (by omega), if_neg (by omega), if_neg (by omega), if_pos (by omega), show 10 + b - 10 = b by omega]
          rintro u1 rfl
          refine ⟨rgO (by omega) (by omega), ih4 _ (b + 1) ⟨by omega, by omega, ?_⟩ (by omega)⟩
          rw [hsG_succ (fun b => partQ W.A i p (10 + b)) _ b0, eb]
      · rw [← pq k k0 (by omega)]
        rintro u1 rfl
        exact ⟨rgO (by omega) (by omega), ih3 _ (k + 1) ⟨by omega, by omega, (hsG_succ (fun x => partQ W.A i p x) _ k0).symm⟩ (by omega)⟩
  · rintro u1 rfl
    exact ⟨rgO (by omega) (by omega), ih _ (k + 1) m1 ⟨by omega, by omega, (hsG_succ (fun x => subQ W.A i x) _ k0).symm, hM1⟩ (by omega)⟩
theorem m_digest (h : MoC m W) (hI : InvW W) {Q : Int → Sg → Prop} (hQ : ∀ m', MoC m' W → Q (digQ W) m') : wp_X10_digest m Q := by
  have pn0 := hI.1.1.1
  have pn1 := hI.1.1.2.1
  have sn0 := hI.1.2.1.1
  have sn1 := hI.1.2.1.2.1
  have tn0 := hI.1.2.2.2.1
  have tn1 := hI.1.2.2.2.2.1
  have en : gI m 280 0 = W.A.pn := h.1.1.1
  have es : gI m 280 21 = W.A.sn := h.1.2.1.1
  intro P hP
  refine lq2 (P := P) (fun _ k => (12 - k).toNat) (fun u k => 0 ≤ k ∧ k ≤ 12 ∧ u = hsG (fun k => toldQ W k) 18771 k.toNat) ?_ _ 0 ⟨by omega, by omega, rfl⟩
  rintro u k ⟨k0, k1, rfl⟩ ih
  refine hP _ k ⟨fun z => ?_, fun z => m_told h hI ?_⟩
  · have ek : k = 12 := by omega
    subst ek
    intro P2 hP2
    refine lq2 (P := P2) (fun _ p => (W.A.pn - p).toNat) (fun u p => 0 ≤ p ∧ p ≤ W.A.pn ∧ u = nsG (fun h p => hsG (fun x => pieceAtQ W.A p x) h 3) (hsG (fun k => toldQ W k) 18771 12) p.toNat) ?_ _ 0 ⟨by omega, by omega, rfl⟩
    rintro u p ⟨p0, p1, rfl⟩ ih2
    refine hP2 _ p ⟨by omega, by omega, ?_⟩
    rw [en]
    refine ⟨fun z => ?_, fun z => ?_⟩
    · have ep : p = W.A.pn := by omega
      subst ep
      generalize hH1 : nsG (fun h p => hsG (fun x => pieceAtQ W.A p x) h 3) (hsG (fun k => toldQ W k) 18771 12) W.A.pn.toNat = H1
      intro P3 hP3
      refine lq2 (P := P3) (fun _ p => (W.A.sn - p).toNat) (fun u p => 0 ≤ p ∧ p ≤ W.A.sn ∧ u = hsG (fun k => shotAtQ W.A k) H1 p.toNat) ?_ _ 0 ⟨by omega, by omega, rfl⟩
      rintro u p ⟨p0, p1, rfl⟩ ih3
      refine hP3 _ p ⟨by omega, by omega, ?_⟩
      rw [es]
      refine ⟨fun z => ?_, fun z => ⟨by omega, by omega, ?_⟩⟩
      · have ep : p = W.A.sn := by omega
        subst ep
        generalize hH2 : hsG (fun k => shotAtQ W.A k) H1 W.A.sn.toNat = H2
        intro P4 hP4
        refine lq3 (P := P4) (fun _ p _ => (W.A.tn - p).toNat) (fun u p s => 0 ≤ p ∧ p ≤ W.A.tn ∧ u = nsG (hbS W.A) H2 p.toNat ∧ MoC s W) ?_ _ 0 m ⟨by omega, by omega, rfl, h⟩
        rintro u p s ⟨p0, p1, rfl, hM⟩ ih4
        have et : gI s 280 42 = W.A.tn := hM.1.2.2.2.1
        refine hP4 _ p s ⟨by omega, by omega, ?_⟩
        rw [et]
        refine ⟨fun z => m_faults hM hI (fun s2 hM2 => ?_), fun z => mixed_sp hM hI p0 (by omega) (fun s2 hM2 => ⟨rgO (by omega) (by omega), ih4 _ (p + 1) s2 ⟨by omega, by omega, (nsG_succ (hbS W.A) H2 p0).symm, hM2⟩ (by omega)⟩)⟩
        have ep : p = W.A.tn := by omega
        subst ep
        rintro u1 rfl
        generalize hH3 : 31 * nsG (hbS W.A) H2 W.A.tn.toNat + faultsQ W.A 0 = H3
        intro P5 hP5
        have key : ∀ (n : Nat) (k : Int) (s : Sg), n = (6 - k).toNat → 0 ≤ k → k ≤ 6 → MoC s W → P5 (hsG (fun k => faultsQ W.A (pwS k)) H3 k.toNat) (if k = 6 then 64 else pwS k) s := by
          intro n
          induction n with
          | zero =>
            intro k s hm k0 k1 hMs
            have ek : k = 6 := by omega
            subst ek
            rw [if_pos rfl]
            refine hP5 _ _ _ ⟨fun _ => ?_, fun z => absurd (by decide) z⟩
            generalize hH4 : hsG (fun k => faultsQ W.A (pwS k)) H3 (6 : Int).toNat = H4
            intro P6 hP6
            refine lq3 (P := P6) (fun _ p _ => (5 - p).toNat) (fun u p s => 0 ≤ p ∧ p ≤ 5 ∧ u = hsG (fun k => icQ W.A 31 k) H4 p.toNat ∧ MoC s W) ?_ _ 0 s ⟨by omega, by omega, rfl, hMs⟩
            rintro u p s2 ⟨p0, p1, rfl, hM2⟩ ih6
            refine hP6 _ p s2 ⟨fun z => ?_, fun z => m_ifConform hM2 hI (fun s3 hM3 => ?_)⟩
            · have ep : p = 5 := by omega
              subst ep
              have := hQ s2 hM2
              unfold digQ at this
              rw [hH1, hH2, hH3, show (6 : Nat) = (6 : Int).toNat from rfl, hH4] at this
              exact this
            · rintro u2 rfl
              exact ⟨rgO (by omega) (by omega), ih6 _ (p + 1) s3 ⟨by omega, by omega, (hsG_succ (fun k => icQ W.A 31 k) H4 p0).symm, hM3⟩ (by omega)⟩
          | succ n ihm =>
            intro k s hm k0 k1 hMs
            rw [if_neg (by omega)]
            have b := pw_rg k0 (by omega)
            refine hP5 _ _ _ ⟨fun z => absurd z (Int.not_lt.mpr b.2), fun z => m_faults hMs hI (fun s3 hM3 => ?_)⟩
            rintro u2 rfl x3 rfl
            refine ⟨rgO (by omega) (by omega), ?_⟩
            have g := ihm (k + 1) s3 (by omega) (by omega) (by omega) hM3
            rw [hsG_succ _ _ k0] at g
            by_cases e5 : k + 1 = 6
            · rw [if_pos e5] at g
              have : pwS k * 2 = 64 := by rw [show k = 5 by omega]; decide
              rw [this]
              exact g
            · rw [if_neg e5] at g
              rw [pw_step k0 (by omega)]
              exact g
        have g := key 6 0 s2 (by decide) (by omega) (by omega) hM2
        rw [if_neg (by omega)] at g
        exact g
      · have ek : gI m 280 (22 + p) = shotAtQ W.A p := by
          unfold shotAtQ
          rw [if_neg (by omega), if_pos (by omega)]
          exact h.1.2.1.2 p p0 (by omega)
        rw [ek]
        rintro u1 rfl
        exact ⟨rgO (by omega) (by omega), ih3 _ (p + 1) ⟨by omega, by omega, (hsG_succ (fun k => shotAtQ W.A k) H1 p0).symm⟩ (by omega)⟩
    · intro P3 hP3
      refine lq2 (P := P3) (fun _ k => (3 - k).toNat) (fun u k => 0 ≤ k ∧ k ≤ 3 ∧ u = hsG (fun x => pieceAtQ W.A p x) (nsG (fun h p => hsG (fun x => pieceAtQ W.A p x) h 3) (hsG (fun k => toldQ W k) 18771 12) p.toNat) k.toNat) ?_ _ 0 ⟨by omega, by omega, rfl⟩
      rintro u k ⟨k0, k1, rfl⟩ ih3
      refine hP3 _ k ⟨fun z => ⟨rgO (by omega) (by omega), ih2 _ (p + 1) ⟨by omega, by omega, ?_⟩ (by omega)⟩, fun z => m_pieceAt h hI ?_⟩
      · rw [nsG_succ _ _ p0, show k = 3 by omega]
        rfl
      · rintro u1 rfl
        exact ⟨rgO (by omega) (by omega), ih3 _ (k + 1) ⟨by omega, by omega, (hsG_succ (fun x => pieceAtQ W.A p x) _ k0).symm⟩ (by omega)⟩
  · rintro u1 rfl
    exact ⟨rgO (by omega) (by omega), ih _ (k + 1) ⟨by omega, by omega, (hsG_succ (fun k => toldQ W k) _ k0).symm⟩ (by omega)⟩
end MDIGEST
