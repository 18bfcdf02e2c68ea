/-! the class's digest -/
theorem subQ2_rg {A : St} (hI : InvSt A) (i : Int) : subQ A i 2 ≤ 2 := by
  unfold subQ
  by_cases h : ¬ (0 ≤ i ∧ i < A.tn)
  · rw [if_pos h]; omega
  · have h := Classical.not_not.mp h
    rw [if_neg (fun z => z h), if_neg (by omega), if_neg (by omega), if_pos rfl]
    have := (hI.2.2.2.2.2.1 i h.1 h.2).2.2.2.1
    omega
theorem partQ1_rg {A : St} (hI : InvSt A) (i p : Int) : partQ A i p 1 ≤ 40 := by
  unfold partQ
  by_cases h : ¬ (0 ≤ i ∧ i < A.tn ∧ 0 ≤ p ∧ p ≤ 1 ∧ 0 ≤ (1 : Int) ∧ ((1 : Int) ≤ 3 ∨ 10 ≤ (1 : Int)))
  · rw [if_pos h]; omega
  · rw [if_neg h]
    have h := Classical.not_not.mp h
    have hS := hI.2.2.2.2.2.1 i h.1 h.2.1
    by_cases h2 : (A.T i).p ≤ p
    · rw [if_pos h2]; omega
    · rw [if_neg h2]
      show ptV (if p = 0 then (A.T i).one else (A.T i).two) (A.v 4) 1 ≤ 40
      unfold ptV
      rw [if_neg (by omega), if_pos rfl]
      split
      · exact hS.2.2.2.2.1.2.2.2.1
      · exact (hS.2.2.2.2.2 (hS.2.2.2.1.resolve_left (by omega))).2.2.2.1
section DIGEST
variable {c : Sg} {W : Wd}
theorem hashSubtitle_sp (h : ClC c W) (hI : InvW W) {h0 i : Int} {Q : Int → Sg → Prop} (hQ : ∀ c', ClC c' W → Q (hbS W.A h0 i) c') : wp_X9_hashSubtitle h0 i c Q := by
  have r2 := subQ2_rg hI.1 i
  intro P hP
  refine lq2 (P := P) (fun _ k => (7 - k).toNat) (fun u k => 0 ≤ k ∧ k ≤ 7 ∧ u = hsG (fun x => subQ W.A i x) h0 k.toNat) ?_ h0 0 ⟨by omega, by omega, rfl⟩
  rintro u k ⟨k0, k1, rfl⟩ ih
  refine hP _ k ⟨fun z => c_stretches h hI (fun c1 hW => ?_), fun z => c_subtitle h hI ?_⟩
  · have ek : k = 7 := by omega
    subst ek
    rintro u1 rfl
    refine c_subtitle hW hI ?_
    intro P2 hP2
    refine lq2 (P := P2) (fun _ k => (subQ W.A i 2 - k).toNat) (fun u p => 0 ≤ p ∧ (p ≤ subQ W.A i 2 ∨ p = 0) ∧ u = nsG (hpS W.A i) (31 * hsG (fun x => subQ W.A i x) h0 (7 : Int).toNat + strQ W.A i) p.toNat) ?_ _ 0 ⟨by omega, by omega, rfl⟩
    rintro u p ⟨p0, p1, rfl⟩ ih2
    refine hP2 _ p ⟨fun z => ?_, fun z => ?_⟩
    · have := hQ c1 hW
      unfold hbS at this
      rw [show p.toNat = (subQ W.A i 2).toNat by omega]
      exact this
    · intro P3 hP3
      have r3 := partQ1_rg hI.1 i p
      refine lq2 (P := P3) (fun _ k => (4 - k).toNat) (fun u k => 0 ≤ k ∧ k ≤ 4 ∧ u = hsG (fun x => partQ W.A i p x) (nsG (hpS W.A i) (31 * hsG (fun x => subQ W.A i x) h0 (7 : Int).toNat + strQ W.A i) p.toNat) k.toNat) ?_ _ 0 ⟨by omega, by omega, rfl⟩
      rintro u k ⟨k0, k1, rfl⟩ ih3
      refine hP3 _ k ⟨fun z => c_part hW hI (by omega) ?_, fun z => c_part hW hI (by omega) ?_⟩
      · have ek : k = 4 := by omega
        subst ek
        intro P4 hP4
        refine lq2 (P := P4) (fun _ b => (partQ W.A i p 1 - b).toNat) (fun u b => 0 ≤ b ∧ (b ≤ partQ W.A i p 1 ∨ b = 0) ∧ u = hsG (fun b => partQ W.A i p (10 + b)) (hsG (fun x => partQ W.A i p x) (nsG (hpS W.A i) (31 * hsG (fun x => subQ W.A i x) h0 (7 : Int).toNat + strQ W.A i) p.toNat) 4) b.toNat) ?_ _ 0 ⟨by omega, by omega, rfl⟩
        rintro u b ⟨b0, b1, rfl⟩ ih4
        refine hP4 _ b ⟨fun z => ⟨rgO (by omega) (by omega), ih2 _ (p + 1) ⟨by omega, by omega, ?_⟩ (by omega)⟩, fun z => ⟨rgO (by omega) (by omega), c_part hW hI (by omega) ?_⟩⟩
        · rw [nsG_succ _ _ p0, show b.toNat = (partQ W.A i p 1).toNat by omega]
          rfl
        · rintro u1 rfl
          exact ⟨rgO (by omega) (by omega), ih4 _ (b + 1) ⟨by omega, by omega, (hsG_succ (fun b => partQ W.A i p (10 + b)) _ b0).symm⟩ (by omega)⟩
      · rintro u1 rfl
        exact ⟨rgO (by omega) (by omega), ih3 _ (k + 1) ⟨by omega, by omega, (hsG_succ (fun x => partQ W.A i p x) _ k0).symm⟩ (by omega)⟩
  · rintro u1 rfl
    exact ⟨rgO (by omega) (by omega), ih _ (k + 1) ⟨by omega, by omega, (hsG_succ (fun x => subQ W.A i x) _ k0).symm⟩ (by omega)⟩
theorem pw_step {k : Int} (k0 : 0 ≤ k) (k1 : k < 5) : pwS k * 2 = pwS (k + 1) := by
  have : k = 0 ∨ k = 1 ∨ k = 2 ∨ k = 3 ∨ k = 4 := by omega
  rcases this with rfl | rfl | rfl | rfl | rfl <;> decide
theorem pw_rg {k : Int} (k0 : 0 ≤ k) (k1 : k ≤ 5) : 1 ≤ pwS k ∧ pwS k ≤ 32 := by
  have : k = 0 ∨ k = 1 ∨ k = 2 ∨ k = 3 ∨ k = 4 ∨ k = 5 := by omega
  rcases this with rfl | rfl | rfl | rfl | rfl | rfl <;> decide
theorem c_digest (h : ClC c W) (hI : InvW W) {Q : Int → Sg → Prop} (hQ : ∀ c', ClC c' W → Q (digQ W) c') : wp_X9_digest c Q := by
  have pn0 := hI.1.1.1
  have pn1 := hI.1.1.2.1
  have sn0 := hI.1.2.1.1
  have sn1 := hI.1.2.1.2.1
  have tn0 := hI.1.2.2.2.1
  have tn1 := hI.1.2.2.2.2.1
  have en : gI c (4 + 1) 2 = W.A.pn := h.1.1.1
  have es : gI c (4 + 4) 1 = W.A.sn := h.1.2.1.1
  intro P hP
  refine lq2 (P := P) (fun _ k => (12 - k).toNat) (fun u k => 0 ≤ k ∧ k ≤ 12 ∧ u = hsG (fun k => toldQ W k) 18771 k.toNat) ?_ _ 0 ⟨by omega, by omega, rfl⟩
  rintro u k ⟨k0, k1, rfl⟩ ih
  refine hP _ k ⟨fun z => ?_, fun z => c_told h hI ?_⟩
  · have ek : k = 12 := by omega
    subst ek
    intro P2 hP2
    refine lq2 (P := P2) (fun _ p => (W.A.pn - p).toNat) (fun u p => 0 ≤ p ∧ p ≤ W.A.pn ∧ u = nsG (fun h p => hsG (fun x => pieceAtQ W.A p x) h 3) (hsG (fun k => toldQ W k) 18771 12) p.toNat) ?_ _ 0 ⟨by omega, by omega, rfl⟩
    rintro u p ⟨p0, p1, rfl⟩ ih2
    refine hP2 _ p ?_
    show (gI c (4 + 1) 2 ≤ p → _) ∧ _
    rw [en]
    refine ⟨fun z => ?_, fun z => ?_⟩
    · have ep : p = W.A.pn := by omega
      subst ep
      generalize hH1 : nsG (fun h p => hsG (fun x => pieceAtQ W.A p x) h 3) (hsG (fun k => toldQ W k) 18771 12) W.A.pn.toNat = H1
      intro P3 hP3
      refine lq2 (P := P3) (fun _ p => (W.A.sn - p).toNat) (fun u p => 0 ≤ p ∧ p ≤ W.A.sn ∧ u = hsG (fun k => shotAtQ W.A k) H1 p.toNat) ?_ _ 0 ⟨by omega, by omega, rfl⟩
      rintro u p ⟨p0, p1, rfl⟩ ih3
      refine hP3 _ p ?_
      show (gI c (4 + 4) 1 ≤ p → _) ∧ _
      rw [es]
      refine ⟨fun z => ?_, fun z => c_shotAt h hI ?_⟩
      · have ep : p = W.A.sn := by omega
        subst ep
        generalize hH2 : hsG (fun k => shotAtQ W.A k) H1 W.A.sn.toNat = H2
        intro P4 hP4
        refine lq3 (P := P4) (fun _ p _ => (W.A.tn - p).toNat) (fun u p s => 0 ≤ p ∧ p ≤ W.A.tn ∧ u = nsG (hbS W.A) H2 p.toNat ∧ ClC s W) ?_ _ 0 c ⟨by omega, by omega, rfl, h⟩
        rintro u p s ⟨p0, p1, rfl, hW⟩ ih4
        have et : gI s (4 + 8) 2 = W.A.tn := hW.1.2.2.2.1
        refine hP4 _ p s ?_
        show (gI s (4 + 8) 2 ≤ p → _) ∧ _
        rw [et]
        refine ⟨fun z => c_faults hW hI ?_, fun z => hashSubtitle_sp hW hI (fun s2 hW2 => ⟨rgO (by omega) (by omega), ih4 _ (p + 1) s2 ⟨by omega, by omega, (nsG_succ (hbS W.A) H2 p0).symm, hW2⟩ (by omega)⟩)⟩
        have ep : p = W.A.tn := by omega
        subst ep
        rintro u1 rfl
        generalize hH3 : 31 * nsG (hbS W.A) H2 W.A.tn.toNat + faultsQ W.A 0 = H3
        intro P5 hP5
        have key : ∀ (m : Nat) (k : Int), m = (6 - k).toNat → 0 ≤ k → k ≤ 6 → P5 (hsG (fun k => faultsQ W.A (pwS k)) H3 k.toNat) (if k = 6 then 64 else pwS k) := by
          intro m
          induction m with
          | zero =>
            intro k hm k0 k1
            have ek : k = 6 := by omega
            subst ek
            rw [if_pos rfl]
            refine hP5 _ _ ⟨fun _ => ?_, fun z => absurd (by decide) z⟩
            generalize hH4 : hsG (fun k => faultsQ W.A (pwS k)) H3 (6 : Int).toNat = H4
            intro P6 hP6
            refine lq3 (P := P6) (fun _ p _ => (5 - p).toNat) (fun u p s => 0 ≤ p ∧ p ≤ 5 ∧ u = hsG (fun k => icQ W.A 31 k) H4 p.toNat ∧ ClC s W) ?_ _ 0 s ⟨by omega, by omega, rfl, hW⟩
            rintro u p s2 ⟨p0, p1, rfl, hW2⟩ ih6
            refine hP6 _ p s2 ⟨fun z => ?_, fun z => c_ifConform hW2 hI (fun s3 hW3 => ?_)⟩
            · have ep : p = 5 := by omega
              subst ep
              have := hQ s2 hW2
              unfold digQ at this
              rw [hH1, hH2, hH3, show (6 : Nat) = (6 : Int).toNat from rfl, hH4] at this
              exact this
            · rintro u2 rfl
              exact ⟨rgO (by omega) (by omega), ih6 _ (p + 1) s3 ⟨by omega, by omega, (hsG_succ (fun k => icQ W.A 31 k) H4 p0).symm, hW3⟩ (by omega)⟩
          | succ m ihm =>
            intro k hm k0 k1
            rw [if_neg (by omega)]
            have b := pw_rg k0 (by omega)
            refine hP5 _ _ ⟨fun z => absurd z (Int.not_lt.mpr b.2), fun z => c_faults hW hI ?_⟩
            rintro u2 rfl x3 rfl
            refine ⟨rgO (by omega) (by omega), ?_⟩
            have g := ihm (k + 1) (by omega) (by omega) (by omega)
            rw [hsG_succ _ _ k0] at g
            by_cases e5 : k + 1 = 6
            · rw [if_pos e5] at g
              have : pwS k * 2 = 64 := by rw [show k = 5 by omega]; decide
              rw [this]
              exact g
            · rw [if_neg e5] at g
              rw [pw_step k0 (by omega)]
              exact g
        have g := key 6 0 (by decide) (by omega) (by omega)
        rw [if_neg (by omega)] at g
        exact g
      · rintro u1 rfl
        exact ⟨rgO (by omega) (by omega), ih3 _ (p + 1) ⟨by omega, by omega, (hsG_succ (fun k => shotAtQ W.A k) H1 p0).symm⟩ (by omega)⟩
    · intro P3 hP3
      refine lq2 (P := P3) (fun _ k => (3 - k).toNat) (fun u k => 0 ≤ k ∧ k ≤ 3 ∧ u = hsG (fun x => pieceAtQ W.A p x) (nsG (fun h p => hsG (fun x => pieceAtQ W.A p x) h 3) (hsG (fun k => toldQ W k) 18771 12) p.toNat) k.toNat) ?_ _ 0 ⟨by omega, by omega, rfl⟩
      rintro u k ⟨k0, k1, rfl⟩ ih3
      refine hP3 _ k ⟨fun z => ⟨rgO (by omega) (by omega), ih2 _ (p + 1) ⟨by omega, by omega, ?_⟩ (by omega)⟩, fun z => c_pieceAt h hI ?_⟩
      · rw [nsG_succ _ _ p0, show k = 3 by omega]
        rfl
      · rintro u1 rfl
        exact ⟨rgO (by omega) (by omega), ih3 _ (k + 1) ⟨by omega, by omega, (hsG_succ (fun x => pieceAtQ W.A p x) _ k0).symm⟩ (by omega)⟩
  · rintro u1 rfl
    exact ⟨rgO (by omega) (by omega), ih _ (k + 1) ⟨by omega, by omega, (hsG_succ (fun k => toldQ W k) _ k0).symm⟩ (by omega)⟩
end DIGEST
