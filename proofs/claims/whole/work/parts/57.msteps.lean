/-! the reference: the steps -/
theorem posS_end {f : Int → Int} {x : Int} {c : Nat} (h : 0 < c → f ((c : Int) - 1) ≤ x) : posS f x c = c := by
  cases c with
  | zero => rfl
  | succ c =>
    unfold posS
    have := h (by omega)
    rw [show ((c + 1 : Nat) : Int) - 1 = (c : Int) by omega] at this
    rw [if_neg (by omega)]
section MSTEPS
variable {m : Sg} {A : St} {n : Int} {T : Int → Sb} {O : Int → Int}
theorem maps_sp {Q : Int → Sg → Prop} (hP : PgM m A) (hI : InvSt A) (hR : RwM m A.tn A.T O)
    (h0 : ∀ m', frS2 m m' → 16 < (mpG A.pn A.F A.L A.T A.tn.toNat).n → Q 0 m')
    (h1 : ∀ m', frS2 m m' → (mpG A.pn A.F A.L A.T A.tn.toNat).n ≤ 16 → gI m' 279 17 = (mpG A.pn A.F A.L A.T A.tn.toNat).lo → RwE m' (mpG A.pn A.F A.L A.T A.tn.toNat).n (mpG A.pn A.F A.L A.T A.tn.toNat).T → Q 1 m') : wp_X10_maps m Q := by
  have hIT := hI.2.2.2
  have n0 := hIT.1
  have n1 := hIT.2.1
  rintro had rfl
  rw [hR.1]
  refine empties_sp hR n0 n1 (fun m1 hf1 h90 hOld _ => ?_)
  rintro s0 rfl
  intro P hPP
  have hf2 : frS2 m (sI m1 279 17 0) := hf1.1.trans (frS2.sI (by omega))
  have old2 : ∀ i, 0 ≤ i → i < A.tn → OldM (sI m1 279 17 0) i (A.T i) (O i) := fun i i0 i1 => RowX.kept (hOld i i0 i1) (fun j => gI_sI_ne (by omega)) (gI_sI_ne (by omega)) (gI_sI_ne (by omega)) (gI_sI_ne (by omega)) (gI_sI_ne (by omega)) (gI_sI_ne (by omega))
  refine lq2 (P := P) (fun i _ => (A.tn - i).toNat) (fun i s => 0 ≤ i ∧ i ≤ A.tn ∧ frS2 m s ∧ (∀ i, 0 ≤ i → i < A.tn → OldM s i (A.T i) (O i)) ∧ (mpG A.pn A.F A.L A.T i.toNat).n ≤ 16 ∧ gI s 279 17 = (mpG A.pn A.F A.L A.T i.toNat).lo ∧ RwE s (mpG A.pn A.F A.L A.T i.toNat).n (mpG A.pn A.F A.L A.T i.toNat).T) ?_ 0 _ ⟨by omega, n0, hf2, old2, by show (0 : Int) ≤ 16; omega, gI_sI_self _ _ _ _, O, (gI_sI_nj (by omega)).trans h90, fun i i0 i1 => by have i1 : i < 0 := i1; omega⟩
  rintro i s ⟨i0, i1, hf, hOs, h16, hlo, hRs⟩ ih
  refine hPP i s ⟨fun z => ?_, fun z => ⟨i0, by omega, i0, by omega, ?_⟩⟩
  · have ei : i = A.tn := by omega
    subst ei
    exact h1 s hf h16 hlo hRs
  · have hi : i < A.tn := by omega
    have hIS := hIT.2.2.1 i i0 hi
    have hO := hOs i i0 hi
    have e1 := mpG_succ A.pn A.F A.L A.T i0
    have im := mpG_inv hI.1 hIT i.toNat (by omega) h16
    have mono := mpG_mono hI.1 hIT (A.tn.toNat - (i + 1).toNat) (i + 1).toNat (by omega)
    rw [e1, show (i + 1).toNat + (A.tn.toNat - (i + 1).toNat) = A.tn.toNat by omega] at mono
    generalize hXd : mpG A.pn A.F A.L A.T i.toNat = X at *
    rw [hO.1.1, hO.1.2.1]
    refine stretchesOf_sp (S := A.T i) (X := X.T) (cn := X.n) (o := O i) (hP.kept hf.1) hI.1 hIS (fun _ => ⟨i0, by omega, hO⟩) im.1.1 (fun _ => ⟨im.1.2.1, hRs⟩) (fun _ hh s2 hf2 => ⟨fun _ => h0 s2 (hf.trans hf2) ?_, fun z => absurd rfl z⟩) (fun s2 hE => ⟨fun z => absurd z (by decide), fun _ => ?_⟩)
    · have mono : X.n + (fnS A.pn A.F A.L (A.T i)).m ≤ (mpG A.pn A.F A.L A.T A.tn.toNat).n := mono
      omega
    · obtain ⟨q1, q2, q3, q4, q5⟩ := hE
      obtain ⟨c16, O2, hR2⟩ := q5 (by decide)
      rw [q4, q3, hlo]
      have fin : ∀ t0, t0 = (if (fnS A.pn A.F A.L (A.T i)).m = 0 then 1 else 0) → wj_X10_maps_61 P A.tn i t0 X.lo s2 Q := fun t0 et => by
        have t01 : t0 = 0 ∨ t0 = 1 := by rw [et]; split <;> omega
        refine ⟨rgO (by omega) (by omega), ?_⟩
        rintro s3 rfl
        refine ⟨rgO (by omega) (by omega), ih (i + 1) _ ⟨by omega, by omega, (hf.trans q1).trans (frS2.sI (by omega)), fun j j0 j1 => ?_, ?_, ?_, ?_⟩ (by omega)⟩
        · have a1 : OldM s2 j (A.T j) (O j) := RowX.kept (hOs j j0 j1) q1.1 (q2 _ (by omega) _) (q2 _ (by omega) _) (q2 _ (by omega) _) (q2 _ (by omega) _) (q2 _ (by omega) _)
          exact RowX.kept a1 (fun j => gI_sI_ne (by omega)) (gI_sI_ne (by omega)) (gI_sI_ne (by omega)) (gI_sI_ne (by omega)) (gI_sI_ne (by omega)) (gI_sI_ne (by omega))
        · rw [e1]; exact c16
        · rw [e1, gI_sI_self, et]
          show _ = (if (fnS A.pn A.F A.L (A.T i)).m = 0 then X.lo + 1 else X.lo)
          split <;> omega
        · rw [e1]
          exact ⟨O2, hR2.kept (fun j => gI_sI_ne (by omega)) (gI_sI_nj (by omega)) (fun a _ _ j => gI_sI_ne (by omega))⟩
      exact ⟨fun z => fin 1 (by rw [if_pos z]), fun z => fin 0 (by rw [if_neg z])⟩
/-- one row is another -/
theorem RwM.up {m' : Sg} {k : Int} {S : Sb} (h : RwM m n T O) (hp : ∀ j, gI m' 280 j = gI m 280 j) (h9 : gI m' 279 9 = gI m 279 9) (hr : ∀ a, 282 ≤ a → a < 287 → ∀ j, j ≠ k → gI m' a j = gI m a j) (hk : RowM m' k S (O k)) : RwM m' n (upS T k S) O := by
  refine ⟨h9.trans h.1, fun i i0 i1 => ?_⟩
  unfold upS
  by_cases e : i = k
  · rw [if_pos e, e]; exact hk
  · rw [if_neg e]
    exact RowX.kept (h.2 i i0 i1) hp (hr _ (by omega) (by omega) _ e) (hr _ (by omega) (by omega) _ e) (hr _ (by omega) (by omega) _ e) (hr _ (by omega) (by omega) _ e) (hr _ (by omega) (by omega) _ e)
theorem RwM.ed {k e : Int} (h : RwM m n T O) (k0 : 0 ≤ k) (k1 : k < n) : RwM (sI m 283 k e) n (upS T k (edS (T k) e)) O := by
  refine h.up (fun j => gI_sI_ne (by omega)) (gI_sI_ne (by omega)) (fun a _ _ j hj => gI_sI_nj hj) ?_
  obtain ⟨⟨r1, r2, r3⟩, ⟨r4, r5, r6, r7⟩, r8, r9, r10⟩ := h.2 k k0 k1
  have pg : gI (sI m 283 k e) 280 = gI m 280 := funext (fun j => gI_sI_ne (by omega))
  have e6 : gI (sI m 283 k e) 286 k = gI m 286 k := gI_sI_ne (by omega)
  unfold RowM RowX
  rw [pg, e6]
  exact ⟨⟨(gI_sI_ne (by omega)).trans r1, gI_sI_self _ _ _ _, (gI_sI_ne (by omega)).trans r3⟩, ⟨(gI_sI_ne (by omega)).trans r4, r5, r6, r7⟩, r8, r9, r10⟩
theorem RwM.bg {k b : Int} (h : RwM m n T O) (k0 : 0 ≤ k) (k1 : k < n) : RwM (sI m 282 k b) n (upS T k (mkS b (T k).e (T k).p (T k).one (T k).two)) O := by
  refine h.up (fun j => gI_sI_ne (by omega)) (gI_sI_ne (by omega)) (fun a _ _ j hj => gI_sI_nj hj) ?_
  obtain ⟨⟨r1, r2, r3⟩, ⟨r4, r5, r6, r7⟩, r8, r9, r10⟩ := h.2 k k0 k1
  have pg : gI (sI m 282 k b) 280 = gI m 280 := funext (fun j => gI_sI_ne (by omega))
  have e6 : gI (sI m 282 k b) 286 k = gI m 286 k := gI_sI_ne (by omega)
  unfold RowM RowX
  rw [pg, e6]
  exact ⟨⟨gI_sI_self _ _ _ _, (gI_sI_ne (by omega)).trans r2, (gI_sI_ne (by omega)).trans r3⟩, ⟨(gI_sI_ne (by omega)).trans r4, r5, r6, r7⟩, r8, r9, r10⟩
/-- row k takes what row r holds -/
theorem take_eq (s : Sg) {k r : Int} (hk : r ≠ k) : sI (sI (sI (sI (sI s 282 k (gI s 282 r)) 283 k (gI (sI s 282 k (gI s 282 r)) 283 r)) 284 k (gI (sI (sI s 282 k (gI s 282 r)) 283 k (gI (sI s 282 k (gI s 282 r)) 283 r)) 284 r)) 285 k (gI (sI (sI (sI s 282 k (gI s 282 r)) 283 k (gI (sI s 282 k (gI s 282 r)) 283 r)) 284 k (gI (sI (sI s 282 k (gI s 282 r)) 283 k (gI (sI s 282 k (gI s 282 r)) 283 r)) 284 r)) 285 r)) 286 k (gI (sI (sI (sI (sI s 282 k (gI s 282 r)) 283 k (gI (sI s 282 k (gI s 282 r)) 283 r)) 284 k (gI (sI (sI s 282 k (gI s 282 r)) 283 k (gI (sI s 282 k (gI s 282 r)) 283 r)) 284 r)) 285 k (gI (sI (sI (sI s 282 k (gI s 282 r)) 283 k (gI (sI s 282 k (gI s 282 r)) 283 r)) 284 k (gI (sI (sI s 282 k (gI s 282 r)) 283 k (gI (sI s 282 k (gI s 282 r)) 283 r)) 284 r)) 285 r)) 286 r) = sV s k (gI s 282 r) (gI s 283 r) (gI s 284 r) (gI s 285 r) (gI s 286 r) := by
  simp only [gI_sI_nj hk]
  rfl
theorem areOne_sp {k : Int} {Q : Int → Prop} (hR : RwM m n T O) (hI : InvTr n T) (k0 : 0 ≤ k) (k1 : k + 1 < n) (h1 : ovS (T k) (T (k + 1)) → Q 1) (h0 : ¬ ovS (T k) (T (k + 1)) → Q 0) : wp_X10_areOne k m Q := by
  have n1 := hI.2.1
  have b1 := rgb (hI.2.2.1 k k0 (by omega))
  have b2 := rgb (hI.2.2.1 (k + 1) (by omega) k1)
  have hb := hI.2.2.2 k (k + 1) k0 (by omega) k1
  obtain ⟨⟨r1, r2, r3⟩, ⟨r4, r5, r6, r7⟩, r8, r9, r10⟩ := hR.2 k k0 (by omega)
  obtain ⟨⟨p1, p2, p3⟩, ⟨p4, p5, p6, p7⟩, p8, p9, p10⟩ := hR.2 (k + 1) (by omega) k1
  rintro w rfl
  refine ⟨rgO (by omega) (by omega), k0, by omega, ?_⟩
  rw [r3, p3, r4, p4]
  refine ⟨fun z => ⟨by omega, by omega, fun z2 => ⟨k0, by omega, speakerOf_sp r7 r5 r6 ⟨by omega, by omega, speakerOf_sp p7 p5 p6 ⟨fun z3 => h0 (fun w => w.2.2.1 z3), fun z3 => ⟨k0, by omega, by omega, by omega, ?_⟩⟩⟩⟩, fun z2 => h0 (fun w => z2 w.2.1)⟩, fun z => h0 (fun w => z w.1)⟩
  rw [r2, p2]
  have go : ∀ e, e = min (T k).e (T (k + 1)).e → wj_X10_areOne_79 k (k + 1) e m Q := fun e ee => by
    refine ⟨by omega, by omega, ?_⟩
    rintro x3 rfl
    rw [p1]
    refine ⟨rgO (by omega) (by omega), k0, by omega, k0, by omega, ?_⟩
    rintro x4 rfl
    rw [r1, r2]
    refine ⟨rgO (by omega) (by omega), by omega, by omega, by omega, by omega, ?_⟩
    rintro x5 rfl
    rw [p2]
    have yes : 0 < e - (T (k + 1)).b → min ((T k).e - (T k).b) ((T (k + 1)).e - (T (k + 1)).b) ≤ 2 * (e - (T (k + 1)).b) → Q 1 := fun a1 a2 => h1 ⟨z, z2, z3, by rw [← ee]; exact a1, by rw [← ee]; exact a2⟩
    refine ⟨rgO (by omega) (by omega), fun y => h0 (fun w => by have w := w.2.2.2.1; rw [← ee] at w; omega), fun y => ⟨fun y2 => ⟨rgO (by omega) (by omega), fun y3 => h0 (fun w => by have w := w.2.2.2.2; rw [← ee] at w; omega), fun y3 => yes (by omega) (by omega)⟩, fun y2 => ⟨rgO (by omega) (by omega), fun y3 => h0 (fun w => by have w := w.2.2.2.2; rw [← ee] at w; omega), fun y3 => yes (by omega) (by omega)⟩⟩⟩
  exact ⟨fun y => ⟨by omega, by omega, go _ (by omega)⟩, fun y => ⟨k0, by omega, go _ (by omega)⟩⟩
theorem merges_sp {Q : Sg → Prop} (hR : RwE m n T) (hI : InvTr n T) (hQ : ∀ m', frW m m' → RwE m' (mgG n.toNat 0 n T).n (mgG n.toNat 0 n T).T → Q m') : wp_X10_merges m Q := by
  intro P hPP
  obtain ⟨O0, hR0⟩ := hR
  refine lq2 (P := P) (fun k s => (gI s 279 9 - k).toNat) (fun k s => 0 ≤ k ∧ k ≤ 16 ∧ frW m s ∧ ∃ f n' T' O', n' - k ≤ (f : Nat) ∧ RwM s n' T' O' ∧ InvTr n' T' ∧ mgG f k n' T' = mgG n.toNat 0 n T) ?_ 0 m ⟨by omega, by omega, frW.rf m, n.toNat, n, T, O0, by omega, hR0, hI, rfl⟩
  rintro k s ⟨k0, k16, hf, f, n', T', O', hfu, hRs, hIs, hr⟩ ih
  have e9 := hRs.1
  have m1 := hIs.2.1
  have next : ∀ s2 f2 n2 T2 O2, frW s s2 → n2 ≤ n' → k + 1 < n' → n2 - (k + 1) ≤ (f2 : Nat) → RwM s2 n2 T2 O2 → InvTr n2 T2 → mgG f2 (k + 1) n2 T2 = mgG n.toNat 0 n T → wj_X10_merges_179 P k s2 Q := fun s2 f2 n2 T2 O2 hf2 hn2 hk2 hfu2 hR2 hI2 hr2 => by
    have e2 := hR2.1
    exact ⟨rgO (by omega) (by omega), ih (k + 1) s2 ⟨by omega, by omega, hf.trans hf2, f2, n2, T2, O2, hfu2, hR2, hI2, hr2⟩ (by omega)⟩
  by_cases hk : k + 1 < n'
  · have hf1 : f = (f - 1) + 1 := by omega
    rw [hf1, mgG, if_pos hk] at hr
    refine hPP k s ⟨rgO (by omega) (by omega), fun z => absurd z (by rw [e9]; omega), fun _ => areOne_sp hRs hIs k0 hk (fun ho => ⟨fun z => absurd z (by decide), fun _ => ⟨k0, by omega, ?_⟩⟩) (fun ho => ⟨fun _ => ?_, fun z => absurd rfl z⟩)⟩
    · rw [if_pos ho] at hr
      have b1 := rgb (hIs.2.2.1 k k0 (by omega))
      have b2 := rgb (hIs.2.2.1 (k + 1) (by omega) hk)
      obtain ⟨⟨r1, r2, r3⟩, ⟨r4, r5, r6, r7⟩, r8, r9, r10⟩ := hRs.2 k k0 (by omega)
      obtain ⟨⟨p1, p2, p3⟩, ⟨p4, p5, p6, p7⟩, p8, p9, p10⟩ := hRs.2 (k + 1) (by omega) hk
      rintro s1 rfl
      refine ⟨by omega, by omega, k0, by omega, ?_⟩
      rintro s2 rfl
      have a1 : gI (sI s 284 k 2) 285 (k + 1) = O' (k + 1) := (gI_sI_ne (by omega)).trans p4
      rw [a1]
      refine ⟨k0, by omega, by omega, by omega, ?_⟩
      have a2 : gI (sI (sI s 284 k 2) 286 k (O' (k + 1))) 283 k = (T' k).e := by rw [gI_sI_ne (by omega), gI_sI_ne (by omega)]; exact r2
      have a3 : gI (sI (sI s 284 k 2) 286 k (O' (k + 1))) 283 (k + 1) = (T' (k + 1)).e := by rw [gI_sI_ne (by omega), gI_sI_ne (by omega)]; exact p2
      rw [a2, a3]
      have go : ∀ e, e = max (T' k).e (T' (k + 1)).e → wj_X10_merges_80 P k e k (sI (sI s 284 k 2) 286 k (O' (k + 1))) Q := fun e ee => by
        refine ⟨k0, by omega, ?_⟩
        rintro s3 rfl
        have hf3 : frW s (sI (sI (sI s 284 k 2) 286 k (O' (k + 1))) 283 k e) := (frW.sI (by omega)).trans ((frW.sI (by omega)).trans (frW.sI (by omega)))
        have pg3 : gI (sI (sI (sI s 284 k 2) 286 k (O' (k + 1))) 283 k e) 280 = gI s 280 := funext hf3.1.1
        have hR3 : RwM (sI (sI (sI s 284 k 2) 286 k (O' (k + 1))) 283 k e) n' (upS T' k (oneS (T' k) (T' (k + 1)))) O' := by
          refine hRs.up hf3.1.1 (by rw [gI_sI_ne (by omega), gI_sI_ne (by omega), gI_sI_ne (by omega)]) (fun a _ _ j hj => by rw [gI_sI_nj hj, gI_sI_nj hj, gI_sI_nj hj]) ?_
          have q6 : gI (sI (sI (sI s 284 k 2) 286 k (O' (k + 1))) 283 k e) 286 k = O' (k + 1) := by rw [gI_sI_ne (by omega), gI_sI_self]
          unfold RowM RowX
          rw [pg3, q6]
          refine ⟨⟨?_, ?_, ?_⟩, ⟨?_, r5, r6, r7⟩, p5, p6, fun _ => p7⟩
          · rw [gI_sI_ne (by omega), gI_sI_ne (by omega), gI_sI_ne (by omega)]; exact r1
          · rw [gI_sI_self]; exact ee
          · rw [gI_sI_ne (by omega), gI_sI_ne (by omega), gI_sI_self]; rfl
          · rw [gI_sI_ne (by omega), gI_sI_ne (by omega), gI_sI_ne (by omega)]; exact r4
        generalize sI (sI (sI s 284 k 2) 286 k (O' (k + 1))) 283 k e = s3 at *
        have e93 := hR3.1
        rw [e93]
        refine ⟨rgO (by omega) (by omega), ?_⟩
        rintro s4 rfl
        rintro x2 rfl
        refine ⟨rgO (by omega) (by omega), fun P2 hP2 => ?_⟩
        have hI4 := (hIs.up (k := k) ((hIs.2.2.1 k k0 (by omega)).one (hIs.2.2.1 (k + 1) (by omega) hk)) rfl).del (x := k + 1) (by omega) hk
        refine lq2 (P := P2) (fun j _ => (n' - j).toNat) (fun j t => k + 1 ≤ j ∧ j ≤ n' - 1 ∧ frW s t ∧ gI t 279 9 = n' - 1 ∧ (∀ i, 0 ≤ i → i < j → RowM t i (delF (upS T' k (oneS (T' k) (T' (k + 1)))) (k + 1) i) (delF O' (k + 1) i)) ∧ ∀ i, j ≤ i → i < n' → RowM t i (upS T' k (oneS (T' k) (T' (k + 1))) i) (O' i)) ?_ (k + 1) _ ⟨by omega, by omega, hf3.trans (frW.sI (by omega)), gI_sI_self _ _ _ _, fun i i0 i1 => ?_, fun i i0 i1 => ?_⟩
        · rintro j t ⟨j0, j1, q1, q2, q3, q4⟩ ih2
          refine hP2 j t ?_
          rw [q2]
          refine ⟨fun z => next t (f - 1) (n' - 1) _ (delF O' (k + 1)) q1 (by omega) hk (by omega) ⟨q2, fun i i0 i1 => q3 i i0 (by omega)⟩ hI4 hr, fun z => ⟨by omega, by omega, by omega, by omega, ?_⟩⟩
          rintro t1 rfl
          refine ⟨by omega, by omega, by omega, by omega, ?_⟩
          rintro t2 rfl
          refine ⟨by omega, by omega, by omega, by omega, ?_⟩
          rintro t3 rfl
          refine ⟨by omega, by omega, by omega, by omega, ?_⟩
          rintro t4 rfl
          refine ⟨by omega, by omega, by omega, by omega, ?_⟩
          rintro t5 rfl
          rw [take_eq t (by omega : j + 1 ≠ j)]
          refine ⟨rgO (by omega) (by omega), ih2 (j + 1) _ ⟨by omega, by omega, q1.trans (frW.sV _ _ _ _ _ _ _), (sV_ot (by omega) 9).trans q2, fun i i0 i1 => ?_, fun i i0 i1 => RowX.sV_other (q4 i (by omega) i1) (by omega)⟩ (by omega)⟩
          by_cases ei : i = j
          · rw [ei]
            have g := q4 (j + 1) (by omega) (by omega)
            have d1 : delF (upS T' k (oneS (T' k) (T' (k + 1)))) (k + 1) j = upS T' k (oneS (T' k) (T' (k + 1))) (j + 1) := if_neg (by omega)
            have d2 : delF O' (k + 1) j = O' (j + 1) := if_neg (by omega)
            rw [d1, d2]
            exact RowX.move g (sV_ot (by omega)) (sV_1 _ _ _ _ _ _ _) (sV_2 _ _ _ _ _ _ _) (sV_3 _ _ _ _ _ _ _) (sV_4 _ _ _ _ _ _ _) (sV_5 _ _ _ _ _ _ _)
          · exact RowX.sV_other (q3 i i0 (by omega)) ei
        · have d1 : delF (upS T' k (oneS (T' k) (T' (k + 1)))) (k + 1) i = upS T' k (oneS (T' k) (T' (k + 1))) i := if_pos (by omega)
          have d2 : delF O' (k + 1) i = O' i := if_pos (by omega)
          rw [d1, d2]
          exact RowX.kept (hR3.2 i i0 (by omega)) (fun j => gI_sI_ne (by omega)) (gI_sI_ne (by omega)) (gI_sI_ne (by omega)) (gI_sI_ne (by omega)) (gI_sI_ne (by omega)) (gI_sI_ne (by omega))
        · exact RowX.kept (hR3.2 i (by omega) i1) (fun j => gI_sI_ne (by omega)) (gI_sI_ne (by omega)) (gI_sI_ne (by omega)) (gI_sI_ne (by omega)) (gI_sI_ne (by omega)) (gI_sI_ne (by omega))
      exact ⟨fun y => ⟨by omega, by omega, go _ (by omega)⟩, fun y => ⟨k0, by omega, go _ (by omega)⟩⟩
    · rw [if_neg ho] at hr
      exact next s (f - 1) n' T' O' (frW.rf s) (by omega) hk (by omega) hRs hIs hr
  · refine hPP k s ⟨rgO (by omega) (by omega), fun z => hQ s hf ?_, fun z => absurd (by rw [e9]; omega) z⟩
    have hr2 : mgG f k n' T' = mkG n' T' := by
      cases f with
      | zero => rfl
      | succ f => rw [mgG, if_neg hk]
    rw [← hr, hr2]
    exact ⟨O', hRs⟩
end MSTEPS
