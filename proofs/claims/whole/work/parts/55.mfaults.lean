/-! the reference: reading, next ones, faults -/
def PgM (m : Sg) (A : St) : Prop := CuP (gI m 280) A.pn A.F A.L ∧ ShP (gI m 280) A.sn A.f ∧ SeP (gI m 280) A.v
theorem PgM.kept {m m' : Sg} {A : St} (h : PgM m A) (hp : ∀ j, gI m' 280 j = gI m 280 j) : PgM m' A := by
  unfold PgM
  rw [show gI m' 280 = gI m 280 from funext hp]
  exact h
theorem shS_iff {n : Int} {f : Int → Int} (h : ∀ i j, 0 ≤ i → i ≤ j → j < n → f i ≤ f j) {i : Int} (i0 : 0 ≤ i) (i1 : i < n) : shS n f i ↔ ∃ k, 0 ≤ k ∧ k < n ∧ k ≠ i ∧ f k = f i := by
  refine ⟨fun z => ?_, fun ⟨k, k0, k1, k2, k3⟩ => ?_⟩
  · rcases z with ⟨a, b⟩ | ⟨a, b⟩
    · exact ⟨i - 1, by omega, by omega, by omega, b⟩
    · exact ⟨i + 1, by omega, by omega, by omega, b⟩
  · rcases Int.lt_or_gt_of_ne k2 with g | g
    · refine Or.inl ⟨by omega, ?_⟩
      have a := h k (i - 1) k0 (by omega) (by omega)
      have b := h (i - 1) i (by omega) (by omega) i1
      omega
    · refine Or.inr ⟨by omega, ?_⟩
      have a := h i (i + 1) i0 (by omega) (by omega)
      have b := h (i + 1) k (by omega) (by omega) k1
      omega
section MFAULTS
variable {m : Sg} {A : St} {n : Int} {T : Int → Sb} {O : Int → Int} {S : Sb} {o i : Int}
theorem mChars_sp {Q : Int → Prop} (h : RowM m i S o) (hI : InvSb S) (i0 : 0 ≤ i) (i1 : i < 16) (hQ : Q (chS S)) : wp_X10_charactersOf i m Q := by
  have hc := chS_rg hI
  unfold chS at hQ hc
  obtain ⟨⟨r1, r2, r3⟩, ⟨r4, r5, r6, r7⟩, r8, r9, r10⟩ := h
  refine ⟨i0, i1, ?_⟩
  rw [r4]
  refine longOf_sp r7 r5 r6 ⟨i0, i1, ?_⟩
  rw [r3]
  refine ⟨fun z => ⟨i0, i1, longOf_sp (r10 z) r8 r9 ?_⟩, fun z => ?_⟩
  · rw [if_pos z] at hQ hc
    rw [← Int.add_assoc]
    exact ⟨rgO (by omega) (by omega), hQ⟩
  · rw [if_neg z] at hQ hc
    rw [Int.add_zero]
    exact ⟨rgO (by omega) (by omega), hQ⟩
theorem mReading_sp {Q : Int → Prop} (hP : PgM m A) (hv : InvSe A.v) (h : RowM m i S o) (hI : InvSb S) (i0 : 0 ≤ i) (i1 : i < 16) (hQ : Q (rdS A.v S)) : wp_X10_readingOf i m Q := by
  have b := rdS_rg hv hI
  unfold rdS at hQ b
  refine setting_sp hP.2.2 (by omega) (by omega) (mChars_sp h hI i0 i1 ?_)
  rintro w rfl
  refine ⟨rgO (by omega) (by omega), setting_sp hP.2.2 (by omega) (by omega) ⟨fun z => setting_sp hP.2.2 (by omega) (by omega) ?_, fun z => ?_⟩⟩
  · rw [show max (A.v 1) (A.v 0 * chS S) = A.v 1 by omega] at hQ; exact hQ
  · rw [show max (A.v 1) (A.v 0 * chS S) = A.v 0 * chS S by omega] at hQ; exact hQ
theorem mNext_sp {Q : Int → Prop} (h : RwM m n T O) (hn : n ≤ 16) (i0 : 0 ≤ i) (i1 : i < n) (hQ : Q (nxS n T i)) : wp_X10_nextOf i m Q := by
  rintro w rfl
  refine ⟨rgO (by omega) (by omega), fun P hP => ?_⟩
  have e := h.1
  refine lq1 (P := P) (fun k => (n - k).toNat) (fun k => i + 1 ≤ k ∧ k ≤ n ∧ nxG (bgS T) (T i).b (n - k).toNat k = nxS n T i) ?_ (i + 1) ⟨by omega, by omega, rfl⟩
  rintro k ⟨k0, k1, hr⟩ ih
  refine hP k ⟨fun z => ?_, fun z => ⟨by omega, by omega, i0, by omega, ?_⟩⟩
  · rw [show (n - k).toNat = 0 by omega] at hr
    rw [← hr] at hQ
    exact hQ
  · rw [show (n - k).toNat = (n - (k + 1)).toNat + 1 by omega, nxG] at hr
    rw [(h.2 k (by omega) (by omega)).1.1, (h.2 i i0 i1).1.1]
    refine ⟨fun y => ?_, fun y => ?_⟩
    · rw [if_pos (show bgS T k ≤ (T i).b from y)] at hr
      exact ⟨rgO (by omega) (by omega), ih (k + 1) ⟨by omega, by omega, hr⟩ (by omega)⟩
    · rw [if_neg (show ¬ bgS T k ≤ (T i).b from y)] at hr
      rw [hr]
      exact hQ
theorem near_sp {x : Int} {Q : Int → Prop} (hP : PgM m A) (hIs : InvSh A.sn A.f) (hv : InvSe A.v) (x0 : 0 ≤ x) (x1 : x ≤ 10000) (hQ : Q (nrS A.sn A.f x (A.v 3))) : wp_X10_near x m Q := by
  have bv := hv.rg
  have b0 := hIs.1
  have b1 := hIs.2.1
  refine setting_sp hP.2.2 (by omega) (by omega) ?_
  rintro w rfl
  refine ⟨rgO (by omega) (by omega), fun P hPP => ?_⟩
  refine lq3 (P := P) (fun _ _ k => (A.sn - k).toNat) (fun b l k => 0 ≤ k ∧ k ≤ A.sn ∧ 0 ≤ l ∧ l ≤ 20000 ∧ nrG A.f x (A.sn - k).toNat k b l = nrS A.sn A.f x (A.v 3)) ?_ (-9) (A.v 3 + 1) 0 ⟨by omega, b0, by omega, by omega, by rw [Int.sub_zero]; rfl⟩
  rintro b l k ⟨k0, k1, l0, l1, hr⟩ ih
  refine hPP b l k ⟨by omega, by omega, ?_⟩
  rw [hP.2.1.1]
  refine ⟨fun z => ?_, fun z => ⟨by omega, by omega, ?_⟩⟩
  · rw [show (A.sn - k).toNat = 0 by omega] at hr
    rw [← hr] at hQ; exact hQ
  · have hk := hIs.2.2.1 k k0 (by omega)
    have ek : gI m 280 (22 + k) = A.f k := hP.2.1.2 k k0 (by omega)
    rw [show (A.sn - k).toNat = (A.sn - (k + 1)).toNat + 1 by omega, nrG] at hr
    rw [ek]
    have go : ∀ a, a = jAbs (A.f k - x) → wj_X10_near_67 P x b l k a m Q := fun a ea => by
      have ha : 0 ≤ jAbs (A.f k - x) ∧ jAbs (A.f k - x) ≤ 20000 := by unfold jAbs; split <;> omega
      rw [← ea] at hr ha
      refine ⟨fun y => ?_, fun y => ⟨by omega, by omega, ?_⟩⟩
      · rw [if_neg (by omega)] at hr
        refine ⟨fun y2 => ⟨rgO (by omega) (by omega), ih b l (k + 1) ⟨by omega, by omega, l0, l1, hr⟩ (by omega)⟩, fun y2 => absurd y y2⟩
      · rw [if_pos (by omega)] at hr
        rw [ek]
        exact ⟨fun y2 => absurd y2 y, fun y2 => ⟨rgO (by omega) (by omega), ih _ a (k + 1) ⟨by omega, by omega, ha.1, ha.2, hr⟩ (by omega)⟩⟩
    refine ⟨fun y => ⟨by omega, by omega, ?_⟩, fun y => ⟨by omega, by omega, ?_⟩⟩
    · exact ⟨rgO (by omega) (by omega), go _ (by unfold jAbs; split <;> omega)⟩
    · exact ⟨rgO (by omega) (by omega), go _ (by unfold jAbs; split <;> omega)⟩
theorem isOff_sp {x : Int} {Q : Int → Prop} (hP : PgM m A) (hIs : InvSh A.sn A.f) (hv : InvSe A.v) (x0 : 0 ≤ x) (x1 : x ≤ 10000) (h1 : offS A.sn A.f (A.v 3) x → Q 1) (h0 : ¬ offS A.sn A.f (A.v 3) x → Q 0) : wp_X10_isOff x m Q :=
  near_sp hP hIs hv x0 x1 ⟨fun z => h0 (fun w => w (Or.inl z)), fun z => near_sp hP hIs hv x0 x1 ⟨fun y => h0 (fun w => w (Or.inr y)), fun y => h1 (fun w => w.elim z y)⟩⟩
theorem mFaults_sp {Q : Int → Prop} (hP : PgM m A) (hI : InvSt A) (h : RwM m A.tn A.T O) (i0 : 0 ≤ i) (i1 : i < A.tn) (hQ : Q (ftS A i)) : wp_X10_faultsOf i m Q := by
  have hn := hI.2.2.2.2.1
  have hS := h.2 i i0 i1
  have hIS := hI.2.2.2.2.2.1 i i0 i1
  have b := rgb hIS
  have bv := hI.2.2.1.rg
  have nx := nxS_rg (T := A.T) i0 i1
  unfold ftS at hQ
  have d6 : ∀ u t0, 0 ≤ u → u ≤ 15 → t0 = (if swS (A.T i) (A.v 4) then 16 else 0) → Q (u + (if swS (A.T i) (A.v 4) then 16 else 0) + if smS A.L A.pn.toNat < (A.T i).e then 32 else 0) → wj_X10_faultsOf_218 i t0 u m Q := fun u t0 u0 u1 et hu => by
    rw [← et] at hu
    have t1 : t0 = 0 ∨ t0 = 16 := by rw [et]; split <;> omega
    rintro w rfl
    refine ⟨rgO (by omega) (by omega), i0, by omega, newLong_sp hP.1 hI.1 ?_⟩
    rw [hS.1.2.1]
    refine ⟨fun z => ⟨rgO (by omega) (by omega), ?_⟩, fun z => ⟨rgO (by omega) (by omega), ?_⟩⟩
    · rw [if_neg (by omega)] at hu; exact hu
    · rw [if_pos (by omega)] at hu; exact hu
  have d5 : ∀ u t0, 0 ≤ u → u ≤ 7 → t0 = (if offS A.sn A.f (A.v 3) (A.T i).b ∨ offS A.sn A.f (A.v 3) (A.T i).e then 8 else 0) → Q (u + (if offS A.sn A.f (A.v 3) (A.T i).b ∨ offS A.sn A.f (A.v 3) (A.T i).e then 8 else 0) + (if swS (A.T i) (A.v 4) then 16 else 0) + if smS A.L A.pn.toNat < (A.T i).e then 32 else 0) → wj_X10_faultsOf_171 i t0 u m Q := fun u t0 u0 u1 et hu => by
    rw [← et] at hu
    have t1 : t0 = 0 ∨ t0 = 8 := by rw [et]; split <;> omega
    rintro w rfl
    obtain ⟨⟨r1, r2, r3⟩, ⟨r4, r5, r6, r7⟩, r8, r9, r10⟩ := hS
    have yes : swS (A.T i) (A.v 4) → wj_X10_faultsOf_212 i (u + t0) m Q := fun z => d6 _ _ (by omega) (by omega) (if_pos z).symm hu
    have no : ¬ swS (A.T i) (A.v 4) → wj_X10_faultsOf_217 i (u + t0) m Q := fun z => d6 _ _ (by omega) (by omega) (if_neg z).symm hu
    refine ⟨rgO (by omega) (by omega), i0, by omega, ?_⟩
    rw [r4]
    refine mWide_sp r7 hIS.2.2.2.2.1 r5 r6 hP.2.2 (by omega) (by omega) (fun z => ⟨fun y => absurd y (by decide), fun _ => yes (Or.inl z)⟩) (fun z => ⟨fun _ => ⟨i0, by omega, ?_⟩, fun y => absurd rfl y⟩)
    rw [r3]
    refine ⟨fun y => ⟨i0, by omega, mWide_sp (r10 y) (hIS.2.2.2.2.2 y) r8 r9 hP.2.2 (by omega) (by omega) (fun z2 => ⟨fun y2 => absurd y2 (by decide), fun _ => yes (Or.inr ⟨y, z2⟩)⟩) (fun z2 => ⟨fun _ => no (fun w => w.elim z (fun w => z2 w.2)), fun y2 => absurd rfl y2⟩)⟩, fun y => no (fun w => w.elim z (fun w => y w.1))⟩
  have d4 : ∀ u t0, 0 ≤ u → u ≤ 3 → t0 = (if shS A.tn (bgS A.T) i then 4 else 0) → Q (u + (if shS A.tn (bgS A.T) i then 4 else 0) + (if offS A.sn A.f (A.v 3) (A.T i).b ∨ offS A.sn A.f (A.v 3) (A.T i).e then 8 else 0) + (if swS (A.T i) (A.v 4) then 16 else 0) + if smS A.L A.pn.toNat < (A.T i).e then 32 else 0) → wj_X10_faultsOf_134 i t0 u m Q := fun u t0 u0 u1 et hu => by
    rw [← et] at hu
    have t1 : t0 = 0 ∨ t0 = 4 := by rw [et]; split <;> omega
    rintro w rfl
    have yes : (offS A.sn A.f (A.v 3) (A.T i).b ∨ offS A.sn A.f (A.v 3) (A.T i).e) → wj_X10_faultsOf_165 i (u + t0) m Q := fun z => d5 _ _ (by omega) (by omega) (if_pos z).symm hu
    refine ⟨rgO (by omega) (by omega), i0, by omega, ?_⟩
    rw [hS.1.1]
    refine isOff_sp hP hI.2.1 hI.2.2.1 (by omega) (by omega) (fun z => ⟨fun y => absurd y (by decide), fun _ => yes (Or.inl z)⟩) (fun z => ⟨fun _ => ⟨i0, by omega, ?_⟩, fun y => absurd rfl y⟩)
    rw [hS.1.2.1]
    exact isOff_sp hP hI.2.1 hI.2.2.1 (by omega) (by omega) (fun z2 => ⟨fun y => absurd y (by decide), fun _ => yes (Or.inr z2)⟩) (fun z2 => ⟨fun _ => d5 _ _ (by omega) (by omega) (if_neg (fun w => w.elim z z2)).symm hu, fun y => absurd rfl y⟩)
  have d3 : ∀ x3 u t0, 0 ≤ u → u ≤ 1 → (x3 = 0 ∧ ¬ shS A.tn (bgS A.T) i ∨ x3 = 1 ∧ shS A.tn (bgS A.T) i) → t0 = (if ltS A.v A.tn A.T i < (A.T i).e then 2 else 0) → Q (u + (if ltS A.v A.tn A.T i < (A.T i).e then 2 else 0) + (if shS A.tn (bgS A.T) i then 4 else 0) + (if offS A.sn A.f (A.v 3) (A.T i).b ∨ offS A.sn A.f (A.v 3) (A.T i).e then 8 else 0) + (if swS (A.T i) (A.v 4) then 16 else 0) + if smS A.L A.pn.toNat < (A.T i).e then 32 else 0) → wj_X10_faultsOf_120 i x3 t0 u m Q := fun x3 u t0 u0 u1 hx et hu => by
    rw [← et] at hu
    have t1 : t0 = 0 ∨ t0 = 2 := by rw [et]; split <;> omega
    rintro w rfl
    refine ⟨rgO (by omega) (by omega), fun z => ?_, fun z => ?_⟩
    · have hs := hx.elim (fun w => w.2) (fun w => absurd (z.symm.trans w.1) (by decide))
      exact d4 _ _ (by omega) (by omega) (if_neg hs).symm hu
    · have hs := hx.elim (fun w => absurd w.1 z) (fun w => w.2)
      exact d4 _ _ (by omega) (by omega) (if_pos hs).symm hu
  have d2 : ∀ x3 u, 0 ≤ u → u ≤ 1 → (x3 = 0 ∧ ¬ shS A.tn (bgS A.T) i ∨ x3 = 1 ∧ shS A.tn (bgS A.T) i) → Q (u + (if ltS A.v A.tn A.T i < (A.T i).e then 2 else 0) + (if shS A.tn (bgS A.T) i then 4 else 0) + (if offS A.sn A.f (A.v 3) (A.T i).b ∨ offS A.sn A.f (A.v 3) (A.T i).e then 8 else 0) + (if swS (A.T i) (A.v 4) then 16 else 0) + if smS A.L A.pn.toNat < (A.T i).e then 32 else 0) → wj_X10_faultsOf_84 i (nxS A.tn A.T i) x3 u m Q := fun x3 u u0 u1 hx hu => by
    have el : ltS A.v A.tn A.T i = if nxS A.tn A.T i = -9 then 9999 else (A.T (nxS A.tn A.T i)).b - A.v 2 := rfl
    refine ⟨fun z => d3 x3 u 0 u0 u1 hx ?_ hu, fun z => ⟨i0, by omega, by omega, by omega, setting_sp hP.2.2 (by omega) (by omega) ?_⟩⟩
    · rw [if_pos z] at el
      rw [if_neg (by omega)]
    · rw [if_neg z] at el
      have nx := nx.resolve_left z
      have b2 := rgb (hI.2.2.2.2.2.1 (nxS A.tn A.T i) (by omega) nx.2.1)
      rw [(h.2 _ (by omega) nx.2.1).1.1, hS.1.2.1]
      refine ⟨rgO (by omega) (by omega), fun y => d3 x3 u 0 u0 u1 hx ?_ hu, fun y => d3 x3 u 2 u0 u1 hx ?_ hu⟩
      · rw [if_neg (by omega)]
      · rw [if_pos (by omega)]
  refine mNext_sp h hn i0 i1 ?_
  intro P hPP
  have hsh := shS_iff (n := A.tn) (f := bgS A.T) (fun i j a b c => hI.2.2.2.2.2.2 i j a b c) i0 i1
  refine lq2 (P := P) (fun _ k => (A.tn - k).toNat) (fun u k => 0 ≤ k ∧ k ≤ A.tn ∧ ((u = 1 ∧ shS A.tn (bgS A.T) i) ∨ (u = 0 ∧ ∀ j, 0 ≤ j → j < k → j ≠ i → (A.T j).b ≠ (A.T i).b))) ?_ 0 0 ⟨by omega, by omega, Or.inr ⟨rfl, fun j j0 j1 => by omega⟩⟩
  rintro u k ⟨k0, k1, hu⟩ ih
  have e9 := h.1
  refine hPP u k ?_
  rw [e9]
  refine ⟨fun z => ?_, fun z => ⟨fun y => ?_, fun y => ⟨rgO (by omega) (by omega), ih 1 (k + 1) ⟨by omega, by omega, Or.inl ⟨rfl, hu.elim (fun w => w.2) (fun w => absurd w.1 y)⟩⟩ (by omega)⟩⟩⟩
  · have hx : (u = 0 ∧ ¬ shS A.tn (bgS A.T) i ∨ u = 1 ∧ shS A.tn (bgS A.T) i) := by
      rcases hu with w | ⟨w1, w2⟩
      · exact Or.inr w
      · refine Or.inl ⟨w1, fun w3 => ?_⟩
        obtain ⟨j, j0, j1, j2, j3⟩ := hsh.mp w3
        exact w2 j j0 (by omega) j2 j3
    refine ⟨i0, by omega, i0, by omega, mReading_sp hP hI.2.2.1 hS hIS i0 (by omega) ?_⟩
    rw [hS.1.1, hS.1.2.1]
    refine ⟨rgO (by omega) (by omega), fun y => d2 u 0 (by omega) (by omega) hx ?_, fun y => d2 u 1 (by omega) (by omega) hx ?_⟩
    · rw [if_neg (by omega)] at hQ; exact hQ
    · rw [if_pos (by omega)] at hQ; exact hQ
  · have hu := hu.elim (fun w => absurd (y.symm.trans w.1) (by decide)) (fun w => w.2)
    have cont : (k ≠ i → (A.T k).b ≠ (A.T i).b) → wj_X10_faultsOf_50 P i (nxS A.tn A.T i) k m Q := fun hk => by
      refine ⟨rgO (by omega) (by omega), ih 0 (k + 1) ⟨by omega, by omega, Or.inr ⟨rfl, fun j j0 j1 j2 => ?_⟩⟩ (by omega)⟩
      by_cases e : j = k
      · rw [e]; exact hk (e ▸ j2)
      · exact hu j j0 (by omega) j2
    refine ⟨fun y2 => cont (fun w => absurd y2 w), fun y2 => ⟨k0, by omega, i0, by omega, ?_⟩⟩
    rw [(h.2 k k0 (by omega)).1.1, hS.1.1]
    refine ⟨fun y3 => ⟨rgO (by omega) (by omega), ih 1 (k + 1) ⟨by omega, by omega, Or.inl ⟨rfl, hsh.mpr ⟨k, k0, by omega, y2, y3⟩⟩⟩ (by omega)⟩, fun y3 => cont (fun _ => y3)⟩
end MFAULTS
