/-! the class's calls: subtitles, steps, the whole -/
theorem jBit_iff {x : Int} (x0 : 0 ≤ x) (x1 : x ≤ 32) : jBit x ≤ 1 ↔ isF x := by
  have key : ∀ n : Nat, n < 33 → (jBit (n : Int) ≤ 1 ↔ isF (n : Int)) := by decide +kernel
  have := key x.toNat (by omega)
  rw [show ((x.toNat : Nat) : Int) = x by omega] at this
  exact this
theorem jAndF_iff {x : Int} (x0 : 0 ≤ x) (x1 : x ≤ 32) : jAnd x (x - 1) = 0 ↔ isF x := by
  have key : ∀ n : Nat, n < 33 → (jAnd (n : Int) ((n : Int) - 1) = 0 ↔ isF (n : Int)) := by decide +kernel
  have := key x.toNat (by omega)
  rw [show ((x.toNat : Nat) : Int) = x by omega] at this
  exact this
theorem jAnd_m1 {x : Int} (h : rgI x) : jAnd x (-1) = x := by
  unfold jAnd
  have e : jI x &&& jI (-1) = jI x := by
    show jI x &&& (-1 : Int32) = jI x
    exact Int32.and_neg_one
  rw [e, jI_toInt h]
theorem jAnd_nn {x y : Int} (h : rgI y) (hy : 0 ≤ y) : 0 ≤ jAnd x y := by
  unfold jAnd
  have e : (jI y).toBitVec.msb = false := by
    rw [BitVec.msb_eq_toInt]
    have : (jI y).toBitVec.toInt = y := jI_toInt h
    rw [this]
    exact decide_eq_false (by omega)
  have e2 : (jI x &&& jI y).toBitVec.msb = false := by
    rw [Int32.toBitVec_and, BitVec.msb_and, e, Bool.and_false]
  rw [BitVec.msb_eq_toInt] at e2
  have := of_decide_eq_false e2
  exact Int.not_lt.mp this
section CALLS2
variable {c : Sg} {W : Wd}
theorem c_clear (h : ClC c W) (hI : InvW W) {Q : Int → Sg → Prop} (hQ : ∀ c', ClC c' (clearS W).W → Q (clearS W).r c') : wp_X9_clear c Q := by
  obtain ⟨g1, g2, ⟨g3, g4⟩, g5⟩ := h
  rintro x rfl s1 rfl
  rw [g3]
  have hf : frC c (sI c 0 1 0) 0 2 := frC.sI (by omega) (by omega)
  exact hQ _ ⟨g1.kept hI.1 hf (by omega) (by omega) (by omega), g2.kept (hf.1 (34 + 8 + 1) (by omega)).2, ⟨gI_sI_self _ _ _ _, fun j j0 j1 => by have j1 : j < 0 := j1; omega⟩, g5.kept hI.2.2.2.2 hI.2.2.2.1 hf (by omega) (by omega)⟩
theorem time_sp {b e : Int} {Q : Int → Prop} (h1 : times b e → Q 1) (h0 : ¬ times b e → Q 0) : wp_X9_isTime b e c Q :=
  ⟨fun z => h0 (by omega), fun z => ⟨fun y => h0 (by omega), fun y => ⟨fun w => h0 (by omega), fun w => h1 (by omega)⟩⟩⟩
theorem wrongBlank_sp (h : ClC c W) (hI : InvW W) {Q : Int → Prop} (hQ : Q (wbQ W)) : wp_X9_firstWrongBlank c Q := by
  intro P hP
  obtain ⟨g3, g4⟩ := h.2.2.1
  have b := hI.2.1
  refine lq2 (P := P) (fun _ k => (W.tb - k).toNat) (fun u k => 0 ≤ k ∧ k ≤ W.tb ∧ wbG W.tb W.B (W.tb - k).toNat k = wbQ W ∧ (u = 0 ∨ u = 1) ∧ (u = 1 ↔ (0 < k ∧ W.B (k - 1) ≠ 32))) ?_ 0 0 ⟨by omega, b.1, by rw [Int.sub_zero]; rfl, Or.inl rfl, ⟨fun z => by omega, fun z => by omega⟩⟩
  rintro u k ⟨k0, k1, hr, hu, hu2⟩ ih
  refine hP u k ⟨fun z => ?_, fun z => ⟨fun y => by omega, fun y => ⟨k0, by omega, fun w => ?_, fun w => ?_⟩⟩⟩
  · rw [show (W.tb - k).toNat = 0 by omega] at hr
    rw [← hr] at hQ; exact hQ
  · rw [g4 k k0 (by omega)] at w
    rw [show (W.tb - k).toNat = (W.tb - (k + 1)).toNat + 1 by omega, wbG] at hr
    refine ⟨fun v => absurd v (by decide), fun _ => ⟨fun v => ?_, fun v => ?_⟩⟩
    · have : k = 0 ∨ W.B (k - 1) = 32 := by
        by_cases e : k = 0
        · exact Or.inl e
        · exact Or.inr (Classical.byContradiction fun e2 => by have := hu2.mpr ⟨by omega, e2⟩; omega)
      rw [if_pos ⟨w, this.elim Or.inl (fun y => Or.inr (Or.inr y))⟩] at hr
      rw [hr]; exact hQ
    · rw [g3]
      refine ⟨rgO (by omega) (by omega), fun v2 => ?_, fun v2 => ?_⟩
      · rw [if_pos ⟨w, Or.inr (Or.inl v2)⟩] at hr
        rw [hr]; exact hQ
      · have u1 := hu2.mp (hu.resolve_left v)
        rw [if_neg (fun y => y.2.elim (fun y => by omega) (fun y => y.elim v2 u1.2))] at hr
        refine ⟨fun v3 => absurd v3 (by decide), fun _ => ⟨rgO (by omega) (by omega), ih 0 (k + 1) ⟨by omega, by omega, hr, Or.inl rfl, ⟨fun y => absurd y (by decide), fun y => ?_⟩⟩ (by omega)⟩⟩
        rw [show k + 1 - 1 = k by omega] at y
        exact absurd w y.2
  · rw [g4 k k0 (by omega)] at w
    rw [show (W.tb - k).toNat = (W.tb - (k + 1)).toNat + 1 by omega, wbG, if_neg (fun y => w y.1)] at hr
    refine ⟨fun _ => ⟨fun _ => ⟨rgO (by omega) (by omega), ih 1 (k + 1) ⟨by omega, by omega, hr, Or.inr rfl, ⟨fun _ => ⟨by omega, ?_⟩, fun _ => rfl⟩⟩ (by omega)⟩, fun v => absurd rfl v⟩, fun v => absurd rfl v⟩
    rw [show k + 1 - 1 = k by omega]
    exact w
theorem c_subtitle (h : ClC c W) (hI : InvW W) {i x : Int} {Q : Int → Prop} (hQ : Q (subQ W.A i x)) : wp_X9_subtitle i x c Q := by
  unfold subQ at hQ
  have hn := hI.1.2.2.2.2.1
  refine tHas_sp h.1.2.2.2.1 (fun h1 => ⟨fun z => absurd z (by decide), fun _ => tAt_sp h.1.2.2.2.1 hn h1.1 h1.2 ?_⟩) (fun h1 => ⟨fun _ => ?_, fun z => absurd rfl z⟩)
  · rw [if_neg (fun z => z h1)] at hQ
    have hS := h.1.2.2.2.2.2 i h1.1 h1.2
    have hIS := hI.1.2.2.2.2.2.1 i h1.1 h1.2
    refine ⟨fun z => ?_, fun z => ?_, fun z => ?_, fun z => characters_sp hS hIS ?_, fun z => reading_sp h.1 hI.1 hS hIS ?_, fun z => faultsOf_sp h.1 hI.1 h1.1 h1.2 ?_, fun z => next_sp h.1.2.2.2 hn h1.1 h1.2 ?_, fun z => ?_⟩
    · rw [if_pos z] at hQ; rw [hS.1.1]; exact hQ
    · rw [if_neg (by omega), if_pos z] at hQ; rw [hS.1.2.1]; exact hQ
    · rw [if_neg (by omega), if_neg (by omega), if_pos z] at hQ; rw [hS.1.2.2]; exact hQ
    · rw [if_neg (by omega), if_neg (by omega), if_neg (by omega), if_pos z] at hQ; exact hQ
    · rw [if_neg (by omega), if_neg (by omega), if_neg (by omega), if_neg (by omega), if_pos z] at hQ; exact hQ
    · rw [if_neg (by omega), if_neg (by omega), if_neg (by omega), if_neg (by omega), if_neg (by omega), if_pos z] at hQ; exact hQ
    · rw [if_neg (by omega), if_neg (by omega), if_neg (by omega), if_neg (by omega), if_neg (by omega), if_neg (by omega), if_pos z] at hQ; exact hQ
    · rw [if_neg (by omega), if_neg (by omega), if_neg (by omega), if_neg (by omega), if_neg (by omega), if_neg (by omega), if_neg (by omega)] at hQ; exact hQ
  · rw [if_pos h1] at hQ; exact hQ
theorem ptV_sp {r : Nat} {p : Pt} {x : Int} {Q : Int → Prop} (h : ClC c W) (hI : InvW W) (hp : PtC c r p) (hIp : InvPt p) (x0 : 0 ≤ x) (x1 : x ≤ 3 ∨ 10 ≤ x) (xr : x ≤ 2147483647) (hQ : Q (ptV p (W.A.v 4) x)) : wj_X9_part_84 x r c Q := by
  unfold ptV at hQ
  have bv := hI.1.2.2.1.rg
  refine ⟨fun z => ⟨fun y => ?_, fun y => ⟨fun y2 => bytes_sp hp ?_, fun y2 => setAt_sp h.1.2.2.1 (by omega) (by omega) (brokenAt_sp hp hIp (by omega) (by omega) ⟨fun y3 => ⟨fun y4 => bytes_sp hp ?_, fun y4 => ?_⟩, fun y3 => ⟨fun y4 => ?_, fun y4 => ?_⟩⟩)⟩⟩, fun z => ⟨rgO (by omega) (by omega), byteAt_sp hp ?_⟩⟩
  · rw [if_pos y] at hQ; rw [hp.1]; exact hQ
  · rw [if_neg y, if_pos y2] at hQ; exact hQ
  · rw [if_neg y, if_neg y2, if_pos y3, if_pos y4] at hQ; exact hQ
  · rw [if_neg y, if_neg y2, if_pos y3, if_neg y4] at hQ; exact hQ
  · rw [if_neg y, if_neg y2, if_neg y3, if_pos (by omega), if_pos y4] at hQ; exact hQ
  · rw [if_neg y, if_neg y2, if_neg y3, if_pos (by omega), if_neg y4] at hQ
    have hb : W.A.v 4 < p.ln := Int.not_le.mp (fun w => y4 (by unfold brS; rw [if_pos w]))
    rcases brS_best hIp hb with ⟨e, _⟩ | ⟨e1, e2, _, _⟩
    · exact absurd e y4
    · exact rankOf_sp hp hIp e1 e2 hQ
  · rw [if_neg (by omega), if_neg (by omega), if_neg (by omega), if_neg (by omega)] at hQ
    by_cases e : x - 10 < p.ln
    · rw [if_pos e] at hQ; rw [if_pos ⟨by omega, e⟩]; exact hQ
    · rw [if_neg e] at hQ; rw [if_neg (fun w => e w.2)]; exact hQ
theorem c_part (h : ClC c W) (hI : InvW W) {i p x : Int} {Q : Int → Prop} (xr : x ≤ 2147483647) (hQ : Q (partQ W.A i p x)) : wp_X9_part i p x c Q := by
  unfold partQ at hQ
  have hn := hI.1.2.2.2.2.1
  refine tHas_sp h.1.2.2.2.1 (fun h1 => ⟨fun z => absurd z (by decide), fun _ => within_sp (fun h2 => ⟨fun z => absurd z (by decide), fun _ => ?_⟩) (fun h2 => ⟨fun _ => ?_, fun z => absurd rfl z⟩)⟩) (fun h1 => ⟨fun _ => ?_, fun z => absurd rfl z⟩)
  · have go : 0 ≤ x → (x ≤ 3 ∨ 10 ≤ x) → wj_X9_part_42 i p x c Q := fun x0 x1 => by
      rw [if_neg (fun z => z ⟨h1.1, h1.2, h2.1, h2.2, x0, x1⟩)] at hQ
      have hS := h.1.2.2.2.2.2 i h1.1 h1.2
      have hIS := hI.1.2.2.2.2.2.1 i h1.1 h1.2
      refine tAt_sp h.1.2.2.2.1 hn h1.1 h1.2 ?_
      rw [hS.1.2.2]
      refine ⟨fun z => ?_, fun z => ?_⟩
      · rw [if_neg (by omega)] at hQ
        refine ⟨fun y => ?_, fun y => ?_⟩
        · rw [if_pos y] at hQ
          exact ptV_sp h hI hS.2.1.2 hIS.2.2.2.2.1 x0 x1 xr hQ
        · rw [if_neg y] at hQ
          have hp2 : (W.A.T i).p = 2 := hIS.2.2.2.1.resolve_left (by omega)
          exact ptV_sp h hI (hS.2.2 hp2).2 (hIS.2.2.2.2.2 hp2) x0 x1 xr hQ
      · rw [if_pos (by omega)] at hQ; exact hQ
    refine ⟨fun z => ?_, fun z => ⟨fun y => go (by omega) (Or.inl y), fun y => ⟨fun y2 => go (by omega) (Or.inr y2), fun y2 => ?_⟩⟩⟩
    · rw [if_pos (fun w => by omega)] at hQ; exact hQ
    · rw [if_pos (fun w => by omega)] at hQ; exact hQ
  · rw [if_pos (fun w => h2 ⟨w.2.2.1, w.2.2.2.1⟩)] at hQ; exact hQ
  · rw [if_pos (fun w => h1 ⟨w.1, w.2.1⟩)] at hQ; exact hQ
theorem c_set (h : ClC c W) (hI : InvW W) {k x : Int} {Q : Int → Sg → Prop} (hQ : ∀ c', ClC c' (setS W k x).W → Q (setS W k x).r c') : wp_X9_set k x c Q := by
  unfold setS at hQ
  refine setTakes_sp (fun h1 => ⟨fun z => absurd z (by decide), fun _ => record_sp h hI (fun c1 hf1 hW => setAt_sp hW.1.2.2.1 h1.1 h1.2.1 (setPut_sp hW.1.2.2.1 h1.1 h1.2.1 (fun c2 hf2 hC => ?_)))⟩) (fun h1 => ⟨fun _ => ?_, fun z => absurd rfl z⟩)
  · rw [if_neg (fun z => z h1)] at hQ
    exact hQ c2 (hW.now hI.push (hf2.mono (by omega) (by omega)) (hW.1.se hI.1 hf2 hC))
  · rw [if_pos h1] at hQ; exact hQ c h
theorem c_conform (h : ClC c W) (hI : InvW W) {x : Int} {Q : Int → Sg → Prop} (hQ : ∀ c', ClC c' (conformS W x).W → Q (conformS W x).r c') : wp_X9_conform x c Q := by
  unfold conformS at hQ
  refine within_sp (fun h1 => ⟨fun z => absurd z (by decide), fun _ => carryOut_sp h hI (fun c1 hf1 hfu hW => ⟨fun _ => ?_, fun z => absurd rfl z⟩) (fun c1 hf1 hfu hl hS hW => ⟨fun z => absurd z (by decide), fun _ => record_sp hW hI (fun c2 hf2 hW2 => ?_)⟩)⟩) (fun h1 => ⟨fun _ => ?_, fun z => absurd rfl z⟩)
  · rw [if_neg (fun z => z h1), if_pos hfu] at hQ; exact hQ c1 hW
  · rw [if_neg (fun z => z h1), if_neg hfu] at hQ
    have hIr := r5S_inv hI.1 hfu
    refine stBecome_sp (q := 4) (hS.kept hIr hf2 (by omega) (by omega) (by omega)) hIr hW2.1.2.2.2.2.1 ⟨by omega, by omega⟩ ⟨by omega, by omega⟩ (by omega) (fun c3 hf3 hS3 => ?_)
    show Q (gI c3 (4 + 8) 2) c3
    rw [hS3.2.2.2.1]
    exact hQ c3 (hW2.now hI.push (hf3.mono (by omega) (by omega)) hS3)
  · rw [if_pos h1] at hQ; exact hQ c h
theorem c_ifConform (h : ClC c W) (hI : InvW W) {x k : Int} {Q : Int → Sg → Prop} (hQ : ∀ c', ClC c' W → Q (icQ W.A x k) c') : wp_X9_ifConform x k c Q := by
  unfold icQ icV at hQ
  refine within_sp (fun h1 => ⟨fun z => absurd z (by decide), fun _ => within_sp (fun h2 => ⟨fun z => absurd z (by decide), fun _ => carryOut_sp h hI (fun c1 hf1 hfu hW => ⟨fun _ => ?_, fun z => absurd rfl z⟩) (fun c1 hf1 hfu hl hS hW => ⟨fun z => absurd z (by decide), fun _ => ?_⟩)⟩) (fun h2 => ⟨fun _ => ?_, fun z => absurd rfl z⟩)⟩) (fun h1 => ⟨fun _ => ?_, fun z => absurd rfl z⟩)
  · rw [if_neg (fun z => z ⟨h1.1, h1.2, h2.1, h2.2⟩), if_pos hfu] at hQ; exact hQ c1 hW
  · rw [if_neg (fun z => z ⟨h1.1, h1.2, h2.1, h2.2⟩), if_neg hfu] at hQ
    have hIr := r5S_inv hI.1 hfu
    refine ⟨fun z => ?_, fun z => allLengths_sp hS.2.2.2 hIr.2.2.2 ?_, fun z => countFaulty_sp hS hIr ?_, fun z => greatestEnd_sp hS.2.2.2 hIr.2.2.2 ?_, fun z => ?_⟩
    · rw [if_pos z] at hQ
      show Q (gI c1 (34 + 8) 2) c1
      rw [hS.2.2.2.1]; exact hQ c1 hW
    · rw [if_neg (by omega), if_pos z] at hQ; exact hQ c1 hW
    · rw [if_neg (by omega), if_neg (by omega), if_pos z] at hQ; exact hQ c1 hW
    · rw [if_neg (by omega), if_neg (by omega), if_neg (by omega), if_pos z] at hQ; exact hQ c1 hW
    · rw [if_neg (by omega), if_neg (by omega), if_neg (by omega), if_neg (by omega)] at hQ
      rw [hl]; exact hQ c1 hW
  · rw [if_pos (fun w => h2 ⟨w.2.2.1, w.2.2.2⟩)] at hQ; exact hQ c h
  · rw [if_pos (fun w => h1 ⟨w.1, w.2.1⟩)] at hQ; exact hQ c h
theorem c_stretches (h : ClC c W) (hI : InvW W) {i : Int} {Q : Int → Sg → Prop} (hQ : ∀ c', ClC c' W → Q (strQ W.A i) c') : wp_X9_stretches i c Q := by
  unfold strQ at hQ
  have hn := hI.1.2.2.2.2.1
  refine tHas_sp h.1.2.2.2.1 (fun h1 => ⟨fun z => absurd z (by decide), fun _ => tAt_sp h.1.2.2.2.1 hn h1.1 h1.2 ?_⟩) (fun h1 => ⟨fun _ => ?_, fun z => absurd rfl z⟩)
  · rw [if_neg (fun z => z h1)] at hQ
    have hrow := h.1.2.2.2.2.1.1 i h1.1 (by omega)
    exact countStretches_sp (h.1.2.2.2.2.2 i h1.1 h1.2) (hI.1.2.2.2.2.2.1 i h1.1 h1.2) (by omega) h.1.1 hI.1.1 (by omega) (fun c1 hf1 => hQ c1 (h.trial hI (hf1.mono (by omega) (by omega)) (h.2.1.kept (hf1.1 (34 + 8 + 1) (by omega)).2)))
  · rw [if_pos h1] at hQ; exact hQ c h
theorem c_shown (h : ClC c W) (hI : InvW W) {x : Int} {Q : Int → Prop} (hQ : Q (shownQ W.A x)) : wp_X9_shown x c Q := by
  unfold shownQ at hQ
  refine within_sp (fun h1 => ⟨fun z => absurd z (by decide), fun _ => shownAt_sp h.1.2.2.2 hI.1.2.2.2.1 hI.1.2.2.2.2.1 ?_⟩) (fun h1 => ⟨fun _ => ?_, fun z => absurd rfl z⟩)
  · rw [if_neg (fun z => z h1)] at hQ; exact hQ
  · rw [if_pos h1] at hQ; exact hQ
theorem c_faults (h : ClC c W) (hI : InvW W) {x : Int} {Q : Int → Prop} (hQ : Q (faultsQ W.A x)) : wp_X9_faults x c Q := by
  unfold faultsQ at hQ
  refine within_sp (fun h1 => ⟨fun z => absurd z (by decide), fun _ => ⟨fun z => countFaulty_sp h.1 hI.1 ?_, fun z => ?_⟩⟩) (fun h1 => ⟨fun _ => ?_, fun z => absurd rfl z⟩)
  · rw [if_neg (fun w => w ((jBit_iff h1.1 h1.2).mp z))] at hQ; exact hQ
  · rw [if_pos (fun w => z ((jBit_iff h1.1 h1.2).mpr w))] at hQ; exact hQ
  · rw [if_pos (fun w => h1 (by omega))] at hQ; exact hQ
theorem c_told (h : ClC c W) (hI : InvW W) {x : Int} {Q : Int → Prop} (hQ : Q (toldQ W x)) : wp_X9_told x c Q := by
  unfold toldQ at hQ
  have late : ¬ (0 ≤ x ∧ x ≤ 4) → wj_X9_told_21 x c Q := fun hx => by
    rw [if_neg hx] at hQ
    have e1 : gI c (4 + 1) 2 = W.A.pn := h.1.1.1
    have e2 : gI c (4 + 4) 1 = W.A.sn := h.1.2.1.1
    have e3 : gI c (4 + 8) 2 = W.A.tn := h.1.2.2.2.1
    have e4 : gI c 0 1 = W.tb := h.2.2.1.1
    have e5 : gI c 61 1 = W.hn := h.2.2.2.1
    refine ⟨fun z => ?_, fun z => frames_sp h.1.1 hI.1.1 ?_, fun z => ?_, fun z => ?_, fun z => countPairs_sp h.1.2.2.2 hI.1.2.2.2.1 hI.1.2.2.2.2.1 ?_, fun z => ?_, fun z => ?_, fun z => ?_⟩
    · rw [if_pos z] at hQ
      show Q (gI c (4 + 1) 2)
      rw [e1]; exact hQ
    · rw [if_neg (by omega), if_pos z] at hQ; exact hQ
    · rw [if_neg (by omega), if_neg (by omega), if_pos z] at hQ
      show Q (gI c (4 + 4) 1)
      rw [e2]; exact hQ
    · rw [if_neg (by omega), if_neg (by omega), if_neg (by omega), if_pos z] at hQ
      show Q (gI c (4 + 8) 2)
      rw [e3]; exact hQ
    · rw [if_neg (by omega), if_neg (by omega), if_neg (by omega), if_neg (by omega), if_pos z] at hQ; exact hQ
    · rw [if_neg (by omega), if_neg (by omega), if_neg (by omega), if_neg (by omega), if_neg (by omega), if_pos z] at hQ
      rw [e4]; exact hQ
    · rw [if_neg (by omega), if_neg (by omega), if_neg (by omega), if_neg (by omega), if_neg (by omega), if_neg (by omega), if_pos z] at hQ
      show Q (gI c 61 1)
      rw [e5]; exact hQ
    · rw [if_neg (by omega), if_neg (by omega), if_neg (by omega), if_neg (by omega), if_neg (by omega), if_neg (by omega), if_neg (by omega)] at hQ; exact hQ
  refine ⟨fun z => late (by omega), fun z => ⟨fun y => late (by omega), fun y => setAt_sp h.1.2.2.1 (by omega) (by omega) ?_⟩⟩
  rw [if_pos (by omega)] at hQ; exact hQ
theorem c_undo (h : ClC c W) (hI : InvW W) {Q : Int → Sg → Prop} (hQ : ∀ c', ClC c' (undoS W).W → Q (undoS W).r c') : wp_X9_undo c Q := by
  unfold undoS at hQ
  have e5 : gI c 61 1 = W.hn := h.2.2.2.1
  have b := hI.2.2.1
  show (gI c 61 1 = 0 → _) ∧ _
  rw [e5]
  refine ⟨fun z => ?_, fun z => restore_sp h hI (by omega) (fun c1 _ _ _ hW => ?_)⟩
  · rw [if_pos z] at hQ; exact hQ c h
  · rw [if_neg z] at hQ
    show Q (gI c1 61 1) c1
    rw [hW.2.2.2.1]
    exact hQ c1 hW
end CALLS2
