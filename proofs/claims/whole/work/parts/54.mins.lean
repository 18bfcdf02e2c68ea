/-! the reference: a row comes in its place; rows come onto the page -/
section MINS
variable {m : Sg} {n : Int} {T : Int → Sb} {O : Int → Int} {S : Sb} {o : Int}
/-- row k takes what the row before it holds -/
theorem shift_eq (s : Sg) (k v : Int) : sI (sI (sI (sI (sI s 282 k v) 283 k (gI (sI s 282 k v) 283 (k - 1))) 284 k (gI (sI (sI s 282 k v) 283 k (gI (sI s 282 k v) 283 (k - 1))) 284 (k - 1))) 285 k (gI (sI (sI (sI s 282 k v) 283 k (gI (sI s 282 k v) 283 (k - 1))) 284 k (gI (sI (sI s 282 k v) 283 k (gI (sI s 282 k v) 283 (k - 1))) 284 (k - 1))) 285 (k - 1))) 286 k (gI (sI (sI (sI (sI s 282 k v) 283 k (gI (sI s 282 k v) 283 (k - 1))) 284 k (gI (sI (sI s 282 k v) 283 k (gI (sI s 282 k v) 283 (k - 1))) 284 (k - 1))) 285 k (gI (sI (sI (sI s 282 k v) 283 k (gI (sI s 282 k v) 283 (k - 1))) 284 k (gI (sI (sI s 282 k v) 283 k (gI (sI s 282 k v) 283 (k - 1))) 284 (k - 1))) 285 (k - 1))) 286 (k - 1)) = sV s k v (gI s 283 (k - 1)) (gI s 284 (k - 1)) (gI s 285 (k - 1)) (gI s 286 (k - 1)) := by
  have hk : k - 1 ≠ k := by omega
  simp only [gI_sI_nj hk]
  rfl
theorem sets_sp {k b e i : Int} {Q : Sg → Prop} (k0 : 0 ≤ k) (k1 : k < 16) (i0 : 0 ≤ i) (i1 : i < 16) (hQ : Q (sV m k b e (gI m 289 i) (gI m 290 i) (gI m 291 i))) : wp_X10_sets k b e i m Q := by
  refine ⟨k0, k1, ?_⟩
  rintro s1 rfl
  refine ⟨k0, k1, ?_⟩
  rintro s2 rfl
  refine ⟨i0, i1, k0, k1, ?_⟩
  rintro s3 rfl
  refine ⟨i0, i1, k0, k1, ?_⟩
  rintro s4 rfl
  refine ⟨i0, i1, k0, k1, ?_⟩
  rintro s5 rfl
  have e1 : gI (sI (sI m 282 k b) 283 k e) 289 i = gI m 289 i := by rw [gI_sI_ne (by omega), gI_sI_ne (by omega)]
  rw [e1]
  have e2 : gI (sI (sI (sI m 282 k b) 283 k e) 284 k (gI m 289 i)) 290 i = gI m 290 i := by rw [gI_sI_ne (by omega), gI_sI_ne (by omega), gI_sI_ne (by omega)]
  rw [e2]
  have e3 : gI (sI (sI (sI (sI m 282 k b) 283 k e) 284 k (gI m 289 i)) 285 k (gI m 290 i)) 291 i = gI m 291 i := by rw [gI_sI_ne (by omega), gI_sI_ne (by omega), gI_sI_ne (by omega), gI_sI_ne (by omega)]
  rw [e3]
  exact hQ
theorem inserts_sp {b e i : Int} {Q : Sg → Prop} (h : RwM m n T O) (n0 : 0 ≤ n) (n1 : n < 16) (i0 : 0 ≤ i) (i1 : i < 16) (hS : OldM m i S o)
    (hQ : ∀ m', frW m m' → (∀ a, 287 ≤ a → ∀ j, gI m' a j = gI m a j) → RwM m' (n + 1) (insF T (posS (bgS T) b n.toNat) (mkS b e S.p S.one S.two)) (insF O (posS (bgS T) b n.toNat) o) → Q m') : wp_X10_inserts b e i m Q := by
  rintro k rfl
  rw [h.1]
  intro P hP
  refine lq2 (P := P) (fun k _ => k.toNat) (fun k s => 0 ≤ k ∧ k ≤ n ∧ frW m s ∧ (∀ a, 287 ≤ a → ∀ j, gI s a j = gI m a j) ∧ gI s 279 9 = n ∧ posS (bgS T) b k.toNat = posS (bgS T) b n.toNat ∧ (∀ j, 0 ≤ j → j < k → RowM s j (T j) (O j)) ∧ ∀ j, k < j → j ≤ n → RowM s j (T (j - 1)) (O (j - 1))) ?_ n m ⟨n0, Int.le_refl _, frW.rf m, fun _ _ _ => rfl, h.1, rfl, fun j j0 j1 => h.2 j j0 j1, fun j j0 j1 => by omega⟩
  rintro k s ⟨k0, k1, g0, g1, g9, gp, glo, ghi⟩ ih
  have done : (posS (bgS T) b n.toNat : Int) = k → wj_X10_inserts_110 b e i k s Q := fun ep => by
    rw [ep] at hQ
    refine sets_sp k0 (by omega) i0 i1 ?_
    have e9 : gI (sV s k b e (gI s 289 i) (gI s 290 i) (gI s 291 i)) 279 9 = n := (sV_ot (by omega) 9).trans g9
    rw [e9]
    refine ⟨rgO (by omega) (by omega), ?_⟩
    rintro s2 rfl
    have pgs : gI s 280 = gI m 280 := funext g0.1.1
    obtain ⟨⟨t1, t2, t3⟩, ⟨t4, t5, t6, t7⟩, t8, t9, t10⟩ := hS
    have hrow : RowM (sV s k b e (gI s 289 i) (gI s 290 i) (gI s 291 i)) k (mkS b e S.p S.one S.two) o := by
      rw [g1 289 (by omega) i, g1 290 (by omega) i, g1 291 (by omega) i, t4]
      exact RowX.sV_row rfl rfl t3 ⟨t5, t6, by rw [pgs]; exact t7⟩ ⟨t8, t9, by rw [pgs]; exact t10⟩
    refine hQ _ (g0.trans ((frW.sV _ _ _ _ _ _ _).trans (frW.sI (by omega)))) (fun a ha j => (gI_sI_ne (by omega)).trans ((sV_ot (by omega) j).trans (g1 a ha j))) ⟨gI_sI_self _ _ _ _, fun j j0 j1 => ?_⟩
    have kp : ∀ {j : Int} {S' : Sb} {o' : Int}, RowM (sV s k b e (gI s 289 i) (gI s 290 i) (gI s 291 i)) j S' o' → RowM (sI (sV s k b e (gI s 289 i) (gI s 290 i) (gI s 291 i)) 279 9 (n + 1)) j S' o' := fun hr => RowX.kept hr (fun j => gI_sI_ne (by omega)) (gI_sI_ne (by omega)) (gI_sI_ne (by omega)) (gI_sI_ne (by omega)) (gI_sI_ne (by omega)) (gI_sI_ne (by omega))
    refine kp ?_
    unfold insF
    by_cases e1 : j < k
    · rw [if_pos e1, if_pos e1]
      exact RowX.sV_other (glo j j0 e1) (by omega)
    · by_cases e2 : j = k
      · rw [if_neg e1, if_pos e2, if_neg e1, if_pos e2, e2]
        exact hrow
      · rw [if_neg e1, if_neg e2, if_neg e1, if_neg e2]
        exact RowX.sV_other (ghi j (by omega) (by omega)) e2
  refine hP k s ⟨fun z => done ?_, fun z => ⟨by omega, by omega, ?_⟩⟩
  · rw [← gp, show k.toNat = 0 by omega]
    show ((0 : Nat) : Int) = k
    omega
  · rw [(glo (k - 1) (by omega) (by omega)).1.1]
    rw [posS_succ _ _ (by omega)] at gp
    refine ⟨fun y => done ?_, fun y => ⟨by omega, by omega, by omega, by omega, ?_⟩⟩
    · rw [if_neg (show ¬ b < bgS T (k - 1) by show ¬ b < (T (k - 1)).b; omega)] at gp
      rw [← gp]; omega
    · rw [if_pos (show b < bgS T (k - 1) by show b < (T (k - 1)).b; omega)] at gp
      rintro s1 rfl
      refine ⟨by omega, by omega, by omega, by omega, ?_⟩
      rintro s2 rfl
      refine ⟨by omega, by omega, by omega, by omega, ?_⟩
      rintro s3 rfl
      refine ⟨by omega, by omega, by omega, by omega, ?_⟩
      rintro s4 rfl
      refine ⟨by omega, by omega, by omega, by omega, ?_⟩
      rintro s5 rfl
      rw [shift_eq]
      refine ⟨rgO (by omega) (by omega), ih (k + (-1)) _ ⟨by omega, by omega, g0.trans (frW.sV _ _ _ _ _ _ _), fun a ha j => (sV_ot (by omega) j).trans (g1 a ha j), (sV_ot (by omega) 9).trans g9, gp, fun j j0 j1 => RowX.sV_other (glo j j0 (by omega)) (by omega), fun j j0 j1 => ?_⟩ (by omega)⟩
      by_cases ej : j = k
      · rw [ej]
        exact RowX.move (glo (k - 1) (by omega) (by omega)) (sV_ot (by omega)) ((sV_1 _ _ _ _ _ _ _).trans (glo (k - 1) (by omega) (by omega)).1.1.symm) (sV_2 _ _ _ _ _ _ _) (sV_3 _ _ _ _ _ _ _) (sV_4 _ _ _ _ _ _ _) (sV_5 _ _ _ _ _ _ _)
      · exact RowX.sV_other (ghi j (by omega) j1) ej
theorem placeOf_sp {x k : Int} {Q : Int → Prop} (k0 : 0 ≤ k) (k1 : k < 16) (hk : gI m 285 k = x) (hlo : ∀ j, 0 ≤ j → j < k → gI m 285 j ≠ x) (hQ : Q k) : wp_X10_placeOf x m Q := by
  intro P hP
  refine lq1 (P := P) (fun j => (16 - j).toNat) (fun j => 0 ≤ j ∧ j ≤ k) ?_ 0 ⟨by omega, k0⟩
  rintro j ⟨j0, j1⟩ ih
  refine hP j ⟨j0, by omega, fun z => ?_, fun z => ?_⟩
  · have : j = k := by
      rcases Int.lt_or_le j k with h | h
      · exact absurd z (hlo j j0 h)
      · omega
    rw [this]; exact hQ
  · have : j < k := by
      rcases Int.lt_or_le j k with h | h
      · exact h
      · exact absurd (by rw [show j = k by omega]; exact hk) z
    exact ⟨rgO (by omega) (by omega), ih (j + 1) ⟨by omega, by omega⟩ (by omega)⟩
theorem lays_sp {W : Wd} {Q : Sg → Prop} (h : RwM m n T O) (hI : InvTr n T) (hM : MoC m W) (hIW : InvW W)
    (hQ : ∀ m', (∀ a, 279 ≤ a → a < 287 → a ≠ 280 → ∀ j, gI m' a j = gI m a j) → MoC m' (setA W (setT W.A n T)) → Q m') : wp_X10_lays m Q := by
  have n0 := hI.1
  have n1 := hI.2.1
  intro P hP
  refine lq2 (P := P) (fun w _ => (32 - w).toNat) (fun w s => 0 ≤ w ∧ w ≤ 32 ∧ (∀ a, a ≠ 292 → ∀ j, gI s a j = gI m a j) ∧ ∀ x k, 0 ≤ x → x < w → 0 ≤ k → k < 42 → gI s 292 (42 * x + k) = gI m 280 (whB x + k)) ?_ 0 m ⟨by omega, by omega, fun _ _ _ => rfl, fun x k x0 x1 => by omega⟩
  rintro w s ⟨w0, w1, g1, g2⟩ ih
  have e9 : gI s 279 9 = n := (g1 279 (by omega) 9).trans h.1
  refine hP w s ⟨fun z => ⟨by omega, by omega, ?_⟩, fun z P2 hP2 => ?_⟩
  · have ew : w = 32 := by omega
    subst ew
    have hMs : MoC s W := hM.scr ⟨g1 280 (by omega), g1 281 (by omega), g1 279 (by omega) 1, g1 279 (by omega) 3⟩
    rw [e9]
    rintro s2 rfl
    have row : ∀ i, 0 ≤ i → i < n → RowM m i (T i) (O i) := h.2
    intro P2 hP2
    refine lq2 (P := P2) (fun i _ => (n - i).toNat) (fun i t => 0 ≤ i ∧ i ≤ n ∧ (∀ a, a ≠ 280 → ∀ j, gI t a j = gI s a j) ∧ gI t 280 42 = n ∧ (∀ j, j < 42 ∨ 1435 ≤ j → gI t 280 j = gI s 280 j) ∧ ∀ i', 0 ≤ i' → i' < i → SbP (gI t 280) (43 + 87 * i') (T i')) ?_ 0 _ ⟨by omega, n0, fun a ha j => gI_sI_ne ha, gI_sI_self _ _ _ _, fun j hj => gI_sI_nj (by omega), fun i' i0 i1 => by omega⟩
    rintro i t ⟨i0, i1, p1, p2, p3, p4⟩ ih2
    have e9t : gI t 279 9 = n := (p1 279 (by omega) 9).trans e9
    refine hP2 i t ⟨fun y => hQ t (fun a a0 a1 a2 j => (p1 a a2 j).trans (g1 a (by omega) j)) ?_, fun y => mAt_sp i0 (by omega) ⟨i0, by omega, by omega, by omega, ?_⟩⟩
    · have ei : i = n := by omega
      subst ei
      exact hMs.pg hIW ⟨fun a ha j => p1 a ha j, fun j hj => p3 j (by omega)⟩ ⟨hMs.1.1.congr hIW.1.1.2.1 (fun j j0 j1 => p3 j (by omega)), hMs.1.2.1.congr hIW.1.2.1.2.1 (fun j j0 j1 => p3 j (by omega)), hMs.1.2.2.1.congr (fun j j0 j1 => p3 j (by omega)), p2, p4⟩
    · have hi : i < n := by omega
      obtain ⟨⟨r1, r2, r3⟩, ⟨r4, r5, r6, r7⟩, r8, r9, r10⟩ := row i i0 hi
      have hIS := hI.2.2.1 i i0 hi
      have low : ∀ a, a ≠ 280 → a ≠ 292 → ∀ j, gI t a j = gI m a j := fun a a0 a1 j => (p1 a a0 j).trans (g1 a a1 j)
      rintro t1 rfl
      refine mAt_sp i0 (by omega) ⟨i0, by omega, by omega, by omega, ?_⟩
      rintro t2 rfl
      refine mAt_sp i0 (by omega) ⟨i0, by omega, by omega, by omega, ?_⟩
      rintro t3 rfl
      rw [gI_sI_ne (by omega : (284 : Nat) ≠ 280), gI_sI_ne (by omega : (284 : Nat) ≠ 280), gI_sI_ne (by omega : (283 : Nat) ≠ 280), low 282 (by omega) (by omega), low 283 (by omega) (by omega), low 284 (by omega) (by omega), r1, r2, r3]
      have c1 : ∀ a, a ≠ 280 → ∀ j, gI (sI (sI (sI t 280 (43 + 87 * i) (T i).b) 280 (43 + 87 * i + 1) (T i).e) 280 (43 + 87 * i + 2) (T i).p) a j = gI s a j := fun a ha j => by
        rw [gI_sI_ne ha, gI_sI_ne ha, gI_sI_ne ha]; exact p1 a ha j
      have c2 : ∀ j, j < 43 + 87 * i ∨ 43 + 87 * i + 3 ≤ j → gI (sI (sI (sI t 280 (43 + 87 * i) (T i).b) 280 (43 + 87 * i + 1) (T i).e) 280 (43 + 87 * i + 2) (T i).p) 280 j = gI t 280 j := fun j hj => by
        rw [gI_sI_nj (by omega), gI_sI_nj (by omega), gI_sI_nj (by omega)]
      have d1 : gI (sI (sI (sI t 280 (43 + 87 * i) (T i).b) 280 (43 + 87 * i + 1) (T i).e) 280 (43 + 87 * i + 2) (T i).p) 280 (43 + 87 * i) = (T i).b := by
        rw [gI_sI_nj (by omega), gI_sI_nj (by omega), gI_sI_self]
      have d2 : gI (sI (sI (sI t 280 (43 + 87 * i) (T i).b) 280 (43 + 87 * i + 1) (T i).e) 280 (43 + 87 * i + 2) (T i).p) 280 (43 + 87 * i + 1) = (T i).e := by
        rw [gI_sI_nj (by omega), gI_sI_self]
      have d3 : gI (sI (sI (sI t 280 (43 + 87 * i) (T i).b) 280 (43 + 87 * i + 1) (T i).e) 280 (43 + 87 * i + 2) (T i).p) 280 (43 + 87 * i + 2) = (T i).p := gI_sI_self _ _ _ _
      generalize sI (sI (sI t 280 (43 + 87 * i) (T i).b) 280 (43 + 87 * i + 1) (T i).e) 280 (43 + 87 * i + 2) (T i).p = u0 at *
      have w1 : whB (2 * i) = 43 + 87 * i + 3 := by unfold whB; omega
      have w2 : whB (2 * i + 1) = 43 + 87 * i + 45 := by unfold whB; omega
      have tx : ∀ x k, 0 ≤ x → x < 32 → 0 ≤ k → k < 42 → gI s 292 (42 * x + k) = gI m 280 (whB x + k) := g2
      intro P3 hP3
      refine lq2 (P := P3) (fun k _ => (42 - k).toNat) (fun k u => 0 ≤ k ∧ k ≤ 42 ∧ (∀ a, a ≠ 280 → ∀ j, gI u a j = gI s a j) ∧ (∀ j, j < 43 + 87 * i + 3 ∨ 43 + 87 * i + 87 ≤ j → gI u 280 j = gI u0 280 j) ∧ ∀ j, 0 ≤ j → j < k → gI u 280 (43 + 87 * i + 3 + j) = gI m 280 (whB (O i) + j) ∧ gI u 280 (43 + 87 * i + 45 + j) = gI m 280 (whB (gI m 286 i) + j)) ?_ 0 u0 ⟨by omega, by omega, c1, fun _ _ => rfl, fun j j0 j1 => by omega⟩
      rintro k u ⟨k0, k1, q1, q2, q3⟩ ih3
      refine hP3 k u ⟨fun x => ⟨rgO (by omega) (by omega), ih2 (i + 1) u ⟨by omega, by omega, q1, ?_, fun j hj => ?_, fun i' j0 j1 => ?_⟩ (by omega)⟩, fun x => ⟨rgO (by omega) (by omega), partAt_sp (by omega) (by omega) ⟨i0, by omega, ?_⟩⟩⟩
      · rw [q2 42 (by omega), c2 42 (by omega)]; exact p2
      · rw [q2 j (by omega), c2 j (by omega)]; exact p3 j hj
      · by_cases e : i' = i
        · have ek : k = 42 := by omega
          subst ek
          rw [e]
          refine ⟨⟨(q2 _ (by omega)).trans d1, (q2 _ (by omega)).trans d2, (q2 _ (by omega)).trans d3⟩, ⟨?_, ?_, fun b b0 b1 => ?_⟩, fun z2 => ⟨?_, ?_, fun b b0 b1 => ?_⟩⟩
          · have := (q3 0 (by omega) (by omega)).1
            rw [Int.add_zero, Int.add_zero] at this
            exact this.trans r7.1
          · exact ((q3 1 (by omega) (by omega)).1).trans r7.2.1
          · have l := hIS.2.2.2.2.1.2.2.2.1
            have := (q3 (2 + b) (by omega) (by omega)).1
            rw [show 43 + 87 * i + 3 + (2 + b) = 43 + 87 * i + 3 + 2 + b by omega, show whB (O i) + (2 + b) = whB (O i) + 2 + b by omega] at this
            exact this.trans (r7.2.2 b b0 b1)
          · have := (q3 0 (by omega) (by omega)).2
            rw [Int.add_zero, Int.add_zero] at this
            exact this.trans (r10 z2).1
          · exact ((q3 1 (by omega) (by omega)).2).trans (r10 z2).2.1
          · have l := (hIS.2.2.2.2.2 z2).2.2.2.1
            have := (q3 (2 + b) (by omega) (by omega)).2
            rw [show 43 + 87 * i + 45 + (2 + b) = 43 + 87 * i + 45 + 2 + b by omega, show whB (gI m 286 i) + (2 + b) = whB (gI m 286 i) + 2 + b by omega] at this
            exact this.trans ((r10 z2).2.2 b b0 b1)
        · exact (p4 i' j0 (by omega)).congr (hI.2.2.1 i' j0 (by omega)) (fun j l0 l1 => by rw [q2 j (by omega), c2 j (by omega)])
      · have a5 : gI u 285 i = O i := (q1 285 (by omega) i).trans ((g1 285 (by omega) i).trans r4)
        rw [a5, w1]
        refine ⟨by omega, by omega, by omega, by omega, ?_⟩
        rintro u1 rfl
        rw [q1 292 (by omega), tx (O i) k r5 r6 k0 (by omega)]
        refine ⟨rgO (by omega) (by omega), partAt_sp (by omega) (by omega) ⟨i0, by omega, ?_⟩⟩
        have a6 : gI (sI u 280 (43 + 87 * i + 3 + k) (gI m 280 (whB (O i) + k))) 286 i = gI m 286 i := by rw [gI_sI_ne (by omega)]; exact (q1 286 (by omega) i).trans (g1 286 (by omega) i)
        rw [a6, w2]
        refine ⟨by omega, by omega, by omega, by omega, ?_⟩
        rintro u2 rfl
        rw [gI_sI_ne (by omega : (292 : Nat) ≠ 280), q1 292 (by omega), tx (gI m 286 i) k r8 r9 k0 (by omega)]
        refine ⟨rgO (by omega) (by omega), ih3 (k + 1) _ ⟨by omega, by omega, fun a ha j => by rw [gI_sI_ne ha, gI_sI_ne ha]; exact q1 a ha j, fun j hj => by rw [gI_sI_nj (by omega), gI_sI_nj (by omega)]; exact q2 j hj, fun j j0 j1 => ?_⟩ (by omega)⟩
        by_cases ej : j = k
        · rw [ej, gI_sI_nj (by omega), gI_sI_self, gI_sI_self]
          exact ⟨rfl, rfl⟩
        · rw [gI_sI_nj (by omega), gI_sI_nj (by omega), gI_sI_nj (by omega), gI_sI_nj (by omega)]
          exact q3 j j0 (by omega)
  · refine lq2 (P := P2) (fun k _ => (42 - k).toNat) (fun k t => 0 ≤ k ∧ k ≤ 42 ∧ (∀ a, a ≠ 292 → ∀ j, gI t a j = gI m a j) ∧ (∀ x k, 0 ≤ x → x < w → 0 ≤ k → k < 42 → gI t 292 (42 * x + k) = gI m 280 (whB x + k)) ∧ ∀ j, 0 ≤ j → j < k → gI t 292 (42 * w + j) = gI m 280 (whB w + j)) ?_ 0 s ⟨by omega, by omega, g1, g2, fun j j0 j1 => by omega⟩
    rintro k t ⟨k0, k1, q1, q2, q3⟩ ih3
    refine hP2 k t ⟨fun x => ⟨rgO (by omega) (by omega), ih (w + 1) t ⟨by omega, by omega, q1, fun x j x0 x1 j0 j1 => ?_⟩ (by omega)⟩, fun x => partAt_sp w0 (by omega) ?_⟩
    · by_cases e : x = w
      · rw [e]; exact q3 j j0 (by omega)
      · exact q2 x j x0 (by omega) j0 j1
    · have b := whB_rg w0 (by omega : w < 32)
      refine ⟨by omega, by omega, by omega, by omega, ?_⟩
      rintro t2 rfl
      rw [q1 280 (by omega)]
      refine ⟨rgO (by omega) (by omega), ih3 (k + 1) _ ⟨by omega, by omega, fun a ha j => (gI_sI_ne ha).trans (q1 a ha j), fun x j x0 x1 j0 j1 => ?_, fun j j0 j1 => ?_⟩ (by omega)⟩
      · rw [gI_sI_nj (by omega)]; exact q2 x j x0 x1 j0 j1
      · by_cases e : j = k
        · rw [e, gI_sI_self]
        · rw [gI_sI_nj (by omega)]; exact q3 j j0 (by omega)
end MINS
