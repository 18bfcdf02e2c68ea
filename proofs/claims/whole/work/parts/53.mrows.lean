/-! the reference's rows -/
def RowX (m : Sg) (ca cb cc cd ce : Nat) (i : Int) (S : Sb) (o : Int) : Prop := (gI m ca i = S.b ∧ gI m cb i = S.e ∧ gI m cc i = S.p) ∧ (gI m cd i = o ∧ 0 ≤ o ∧ o < 32 ∧ PtP (gI m 280) (whB o) S.one) ∧ 0 ≤ gI m ce i ∧ gI m ce i < 32 ∧ (S.p = 2 → PtP (gI m 280) (whB (gI m ce i)) S.two)
abbrev RowM (m : Sg) (i : Int) (S : Sb) (o : Int) : Prop := RowX m 282 283 284 285 286 i S o
abbrev OldM (m : Sg) (i : Int) (S : Sb) (o : Int) : Prop := RowX m 287 288 289 290 291 i S o
def RwM (m : Sg) (n : Int) (T : Int → Sb) (O : Int → Int) : Prop := gI m 279 9 = n ∧ ∀ i, 0 ≤ i → i < n → RowM m i (T i) (O i)
/-- the rows as they are, where a part lies left out -/
def RwE (m : Sg) (n : Int) (T : Int → Sb) : Prop := ∃ O, RwM m n T O
theorem RowX.kept {m m' : Sg} {ca cb cc cd ce : Nat} {i : Int} {S : Sb} {o : Int} (h : RowX m ca cb cc cd ce i S o) (hp : ∀ j, gI m' 280 j = gI m 280 j) (h1 : gI m' ca i = gI m ca i) (h2 : gI m' cb i = gI m cb i) (h3 : gI m' cc i = gI m cc i) (h4 : gI m' cd i = gI m cd i) (h5 : gI m' ce i = gI m ce i) : RowX m' ca cb cc cd ce i S o := by
  unfold RowX
  rw [h1, h2, h3, h4, h5, show gI m' 280 = gI m 280 from funext hp]
  exact h
/-- the rows from 282 to 291 and the page are as before -/
theorem RwM.kept {m m' : Sg} {n : Int} {T : Int → Sb} {O : Int → Int} (h : RwM m n T O) (hp : ∀ j, gI m' 280 j = gI m 280 j) (h9 : gI m' 279 9 = gI m 279 9) (hr : ∀ a, 282 ≤ a → a < 287 → ∀ j, gI m' a j = gI m a j) : RwM m' n T O :=
  ⟨h9.trans h.1, fun i i0 i1 => (h.2 i i0 i1).kept hp (hr _ (by omega) (by omega) _) (hr _ (by omega) (by omega) _) (hr _ (by omega) (by omega) _) (hr _ (by omega) (by omega) _) (hr _ (by omega) (by omega) _)⟩
theorem RwM.congr {m : Sg} {n : Int} {T T' : Int → Sb} {O O' : Int → Int} (h : RwM m n T O) (hT : ∀ j, 0 ≤ j → j < n → T j = T' j) (hO : ∀ j, 0 ≤ j → j < n → O j = O' j) : RwM m n T' O' :=
  ⟨h.1, fun i i0 i1 => by rw [← hT i i0 i1, ← hO i i0 i1]; exact h.2 i i0 i1⟩
/-- row k of m' is row r of m -/
theorem RowX.move {m m' : Sg} {ca cb cc cd ce ca' cb' cc' cd' ce' : Nat} {i k : Int} {S : Sb} {o : Int} (h : RowX m ca cb cc cd ce i S o) (hp : ∀ j, gI m' 280 j = gI m 280 j) (h1 : gI m' ca' k = gI m ca i) (h2 : gI m' cb' k = gI m cb i) (h3 : gI m' cc' k = gI m cc i) (h4 : gI m' cd' k = gI m cd i) (h5 : gI m' ce' k = gI m ce i) : RowX m' ca' cb' cc' cd' ce' k S o := by
  unfold RowX
  rw [h1, h2, h3, h4, h5, show gI m' 280 = gI m 280 from funext hp]
  exact h
section MROWS
variable {m : Sg} {n : Int} {T : Int → Sb} {O : Int → Int}
/-- five numbers come into row k -/
def sV (m : Sg) (k b e p o t : Int) : Sg := sI (sI (sI (sI (sI m 282 k b) 283 k e) 284 k p) 285 k o) 286 k t
theorem sV_ot {m : Sg} {k b e p o t : Int} {a : Nat} (h : a < 282 ∨ 287 ≤ a) (j : Int) : gI (sV m k b e p o t) a j = gI m a j := by
  unfold sV
  rw [gI_sI_ne (by omega), gI_sI_ne (by omega), gI_sI_ne (by omega), gI_sI_ne (by omega), gI_sI_ne (by omega)]
theorem sV_nj {m : Sg} {k b e p o t : Int} {a : Nat} {j : Int} (h : j ≠ k) : gI (sV m k b e p o t) a j = gI m a j := by
  unfold sV
  rw [gI_sI_nj h, gI_sI_nj h, gI_sI_nj h, gI_sI_nj h, gI_sI_nj h]
theorem sV_1 (m : Sg) (k b e p o t : Int) : gI (sV m k b e p o t) 282 k = b := by
  unfold sV
  rw [gI_sI_ne (by omega), gI_sI_ne (by omega), gI_sI_ne (by omega), gI_sI_ne (by omega), gI_sI_self]
theorem sV_2 (m : Sg) (k b e p o t : Int) : gI (sV m k b e p o t) 283 k = e := by
  unfold sV
  rw [gI_sI_ne (by omega), gI_sI_ne (by omega), gI_sI_ne (by omega), gI_sI_self]
theorem sV_3 (m : Sg) (k b e p o t : Int) : gI (sV m k b e p o t) 284 k = p := by
  unfold sV
  rw [gI_sI_ne (by omega), gI_sI_ne (by omega), gI_sI_self]
theorem sV_4 (m : Sg) (k b e p o t : Int) : gI (sV m k b e p o t) 285 k = o := by
  unfold sV
  rw [gI_sI_ne (by omega), gI_sI_self]
theorem sV_5 (m : Sg) (k b e p o t : Int) : gI (sV m k b e p o t) 286 k = t := by
  unfold sV
  rw [gI_sI_self]
theorem sV_fr (m : Sg) (k b e p o t : Int) : frS2 m (sV m k b e p o t) := ⟨sV_ot (by omega), sV_ot (by omega), sV_ot (by omega) _, sV_ot (by omega) _⟩
/-- a row is written; the others stay -/
theorem RowX.sV_row {k b e p o t : Int} {S : Sb} (h1 : b = S.b) (h2 : e = S.e) (h3 : p = S.p) (h4 : 0 ≤ o ∧ o < 32 ∧ PtP (gI m 280) (whB o) S.one) (h5 : 0 ≤ t ∧ t < 32 ∧ (S.p = 2 → PtP (gI m 280) (whB t) S.two)) : RowM (sV m k b e p o t) k S o := by
  unfold RowM RowX
  rw [sV_1, sV_2, sV_3, sV_4, sV_5, show gI (sV m k b e p o t) 280 = gI m 280 from funext (sV_ot (by omega))]
  exact ⟨⟨h1, h2, h3⟩, ⟨rfl, h4⟩, h5⟩
theorem RowX.sV_other {k b e p o t i : Int} {S : Sb} {o' : Int} (h : RowM m i S o') (hi : i ≠ k) : RowM (sV m k b e p o t) i S o' :=
  RowX.kept h (sV_ot (by omega)) (sV_nj hi) (sV_nj hi) (sV_nj hi) (sV_nj hi) (sV_nj hi)
theorem takes_sp {Q : Sg → Prop} (h : TrP (gI m 280) n T) (hI : InvTr n T) (hQ : ∀ m', frS2 m m' → (∀ a, (a < 279 ∨ (279 < a ∧ a < 282) ∨ 287 ≤ a) → ∀ j, gI m' a j = gI m a j) → (∀ j, j ≠ 9 → gI m' 279 j = gI m 279 j) → RwM m' n T (fun i => 2 * i) → (∀ i, 0 ≤ i → i < n → gI m' 286 i = 2 * i + 1) → Q m') : wp_X10_takes m Q := by
  have n0 := hI.1
  have n1 := hI.2.1
  refine ⟨by omega, by omega, ?_⟩
  rw [h.1]
  rintro s0 rfl
  intro P hP
  refine lq2 (P := P) (fun k _ => (n - k).toNat) (fun k s => 0 ≤ k ∧ k ≤ n ∧ (∀ a, (a < 279 ∨ (279 < a ∧ a < 282) ∨ 287 ≤ a) → ∀ j, gI s a j = gI m a j) ∧ (∀ j, j ≠ 9 → gI s 279 j = gI m 279 j) ∧ gI s 279 9 = n ∧ (∀ i, 0 ≤ i → i < k → RowM s i (T i) (2 * i)) ∧ ∀ i, 0 ≤ i → i < k → gI s 286 i = 2 * i + 1) ?_ 0 _ ⟨by omega, n0, fun a ha j => gI_sI_ne (by omega), fun j hj => gI_sI_nj hj, gI_sI_self _ _ _ _, fun i i0 i1 => by omega, fun i i0 i1 => by omega⟩
  rintro k s ⟨k0, k1, g1, g2, g3, g4, g5⟩ ih
  have pg := g1 280 (by omega)
  refine hP k s ⟨fun z => ?_, fun z => mAt_sp k0 (by omega) ⟨by omega, by omega, k0, by omega, ?_⟩⟩
  · have ek : k = n := by omega
    subst ek
    exact hQ s ⟨pg, g1 281 (by omega), g2 1 (by omega), g2 3 (by omega)⟩ g1 g2 ⟨g3, g4⟩ g5
  · have hk : k < n := by omega
    obtain ⟨⟨t1, t2, t3⟩, t4, t5⟩ := h.2 k k0 hk
    rintro s1 rfl
    refine mAt_sp k0 (by omega) ⟨by omega, by omega, k0, by omega, ?_⟩
    rintro s2 rfl
    refine mAt_sp k0 (by omega) ⟨by omega, by omega, k0, by omega, ?_⟩
    rintro s3 rfl
    refine ⟨k0, by omega, rgO (by omega) (by omega), ?_⟩
    rintro s4 rfl
    refine ⟨k0, by omega, rgO (by omega) (by omega), ?_⟩
    rintro s5 rfl
    rw [gI_sI_ne (by omega : (280 : Nat) ≠ 283), gI_sI_ne (by omega : (280 : Nat) ≠ 282), gI_sI_ne (by omega : (280 : Nat) ≠ 282), pg, pg, pg, t1, t2, t3]
    have w1 : whB (2 * k) = 43 + 87 * k + 3 := by unfold whB; omega
    have w2 : whB (2 * k + 1) = 43 + 87 * k + 45 := by unfold whB; omega
    have pgf : gI s 280 = gI m 280 := funext pg
    have hrow : RowM (sV s k (T k).b (T k).e (T k).p (2 * k) (2 * k + 1)) k (T k) (2 * k) := RowX.sV_row rfl rfl rfl ⟨by omega, by omega, by rw [w1, pgf]; exact t4⟩ ⟨by omega, by omega, fun y => by rw [w2, pgf]; exact t5 y⟩
    refine ⟨rgO (by omega) (by omega), ih (k + 1) (sV s k (T k).b (T k).e (T k).p (2 * k) (2 * k + 1)) ⟨by omega, by omega, fun a ha j => (sV_ot (by omega) j).trans (g1 a ha j), fun j hj => (sV_ot (by omega) j).trans (g2 j hj), (sV_ot (by omega) 9).trans g3, fun i i0 i1 => ?_, fun i i0 i1 => ?_⟩ (by omega)⟩
    · by_cases e : i = k
      · rw [e]; exact hrow
      · exact RowX.sV_other (g4 i i0 (by omega)) e
    · by_cases e : i = k
      · rw [e, sV_5]
      · rw [sV_nj e]; exact g5 i i0 (by omega)
/-- what rows' calls may change -/
def frW (m m' : Sg) : Prop := frS2 m m' ∧ (∀ j, j ≠ 9 → gI m' 279 j = gI m 279 j)
theorem frW.rf (m : Sg) : frW m m := ⟨frS2.rf m, fun _ _ => rfl⟩
theorem frW.trans {m m' m'' : Sg} (h : frW m m') (g : frW m' m'') : frW m m'' := ⟨h.1.trans g.1, fun j hj => (g.2 j hj).trans (h.2 j hj)⟩
theorem frW.sI {m : Sg} {a : Nat} {j v : Int} (h : 282 ≤ a ∨ (a = 279 ∧ j = 9)) : frW m (sI m a j v) := ⟨frS2.sI (by omega), fun b hb => by rw [gI_sI, if_neg (by omega)]⟩
theorem frW.sV (m : Sg) (k b e p o t : Int) : frW m (sV m k b e p o t) := ⟨sV_fr m k b e p o t, fun j _ => sV_ot (by omega) j⟩
theorem empties_sp {Q : Sg → Prop} (h : RwM m n T O) (n0 : 0 ≤ n) (n1 : n ≤ 16) (hQ : ∀ m', frW m m' → gI m' 279 9 = 0 → (∀ i, 0 ≤ i → i < n → OldM m' i (T i) (O i)) → (∀ i, 0 ≤ i → i < n → gI m' 291 i = gI m 286 i) → Q m') : wp_X10_empties m Q := by
  intro P hP
  refine lq2 (P := P) (fun k _ => (n - k).toNat) (fun k s => 0 ≤ k ∧ k ≤ n ∧ frW m s ∧ (∀ a, a < 287 → ∀ j, gI s a j = gI m a j) ∧ (∀ i, 0 ≤ i → i < k → OldM s i (T i) (O i)) ∧ ∀ i, 0 ≤ i → i < k → gI s 291 i = gI m 286 i) ?_ 0 m ⟨by omega, n0, frW.rf m, fun _ _ _ => rfl, fun i i0 i1 => by omega, fun i i0 i1 => by omega⟩
  rintro k s ⟨k0, k1, g0, g1, g4, g5⟩ ih
  have e9 : gI s 279 9 = n := (g1 279 (by omega) 9).trans h.1
  refine hP k s ⟨fun z => ?_, fun z => ⟨k0, by omega, k0, by omega, ?_⟩⟩
  · have ek : k = n := by omega
    subst ek
    rintro s2 rfl
    exact hQ _ (g0.trans (frW.sI (by omega))) (gI_sI_self _ _ _ _) (fun i i0 i1 => RowX.kept (g4 i i0 i1) (fun j => gI_sI_ne (by omega)) (gI_sI_ne (by omega)) (gI_sI_ne (by omega)) (gI_sI_ne (by omega)) (gI_sI_ne (by omega)) (gI_sI_ne (by omega))) (fun i i0 i1 => (gI_sI_ne (by omega)).trans (g5 i i0 i1))
  · have hk : k < n := by omega
    have hrow := h.2 k k0 hk
    rintro s1 rfl
    refine ⟨k0, by omega, k0, by omega, ?_⟩
    rintro s2 rfl
    refine ⟨k0, by omega, k0, by omega, ?_⟩
    rintro s3 rfl
    refine ⟨k0, by omega, k0, by omega, ?_⟩
    rintro s4 rfl
    refine ⟨k0, by omega, k0, by omega, ?_⟩
    rintro s5 rfl
    have hf : frW s (sI (sI (sI (sI (sI s 287 k (gI s 282 k)) 288 k (gI (sI s 287 k (gI s 282 k)) 283 k)) 289 k (gI (sI (sI s 287 k (gI s 282 k)) 288 k (gI (sI s 287 k (gI s 282 k)) 283 k)) 284 k)) 290 k (gI (sI (sI (sI s 287 k (gI s 282 k)) 288 k (gI (sI s 287 k (gI s 282 k)) 283 k)) 289 k (gI (sI (sI s 287 k (gI s 282 k)) 288 k (gI (sI s 287 k (gI s 282 k)) 283 k)) 284 k)) 285 k)) 291 k (gI (sI (sI (sI (sI s 287 k (gI s 282 k)) 288 k (gI (sI s 287 k (gI s 282 k)) 283 k)) 289 k (gI (sI (sI s 287 k (gI s 282 k)) 288 k (gI (sI s 287 k (gI s 282 k)) 283 k)) 284 k)) 290 k (gI (sI (sI (sI s 287 k (gI s 282 k)) 288 k (gI (sI s 287 k (gI s 282 k)) 283 k)) 289 k (gI (sI (sI s 287 k (gI s 282 k)) 288 k (gI (sI s 287 k (gI s 282 k)) 283 k)) 284 k)) 285 k)) 286 k)) :=
      (frW.sI (by omega)).trans ((frW.sI (by omega)).trans ((frW.sI (by omega)).trans ((frW.sI (by omega)).trans (frW.sI (by omega)))))
    have lo : ∀ a, a < 287 → ∀ j, gI (sI (sI (sI (sI (sI s 287 k (gI s 282 k)) 288 k (gI (sI s 287 k (gI s 282 k)) 283 k)) 289 k (gI (sI (sI s 287 k (gI s 282 k)) 288 k (gI (sI s 287 k (gI s 282 k)) 283 k)) 284 k)) 290 k (gI (sI (sI (sI s 287 k (gI s 282 k)) 288 k (gI (sI s 287 k (gI s 282 k)) 283 k)) 289 k (gI (sI (sI s 287 k (gI s 282 k)) 288 k (gI (sI s 287 k (gI s 282 k)) 283 k)) 284 k)) 285 k)) 291 k (gI (sI (sI (sI (sI s 287 k (gI s 282 k)) 288 k (gI (sI s 287 k (gI s 282 k)) 283 k)) 289 k (gI (sI (sI s 287 k (gI s 282 k)) 288 k (gI (sI s 287 k (gI s 282 k)) 283 k)) 284 k)) 290 k (gI (sI (sI (sI s 287 k (gI s 282 k)) 288 k (gI (sI s 287 k (gI s 282 k)) 283 k)) 289 k (gI (sI (sI s 287 k (gI s 282 k)) 288 k (gI (sI s 287 k (gI s 282 k)) 283 k)) 284 k)) 285 k)) 286 k)) a j = gI s a j := fun a ha j => by
      rw [gI_sI_ne (by omega), gI_sI_ne (by omega), gI_sI_ne (by omega), gI_sI_ne (by omega), gI_sI_ne (by omega)]
    generalize hs5 : sI (sI (sI (sI (sI s 287 k (gI s 282 k)) 288 k (gI (sI s 287 k (gI s 282 k)) 283 k)) 289 k (gI (sI (sI s 287 k (gI s 282 k)) 288 k (gI (sI s 287 k (gI s 282 k)) 283 k)) 284 k)) 290 k (gI (sI (sI (sI s 287 k (gI s 282 k)) 288 k (gI (sI s 287 k (gI s 282 k)) 283 k)) 289 k (gI (sI (sI s 287 k (gI s 282 k)) 288 k (gI (sI s 287 k (gI s 282 k)) 283 k)) 284 k)) 285 k)) 291 k (gI (sI (sI (sI (sI s 287 k (gI s 282 k)) 288 k (gI (sI s 287 k (gI s 282 k)) 283 k)) 289 k (gI (sI (sI s 287 k (gI s 282 k)) 288 k (gI (sI s 287 k (gI s 282 k)) 283 k)) 284 k)) 290 k (gI (sI (sI (sI s 287 k (gI s 282 k)) 288 k (gI (sI s 287 k (gI s 282 k)) 283 k)) 289 k (gI (sI (sI s 287 k (gI s 282 k)) 288 k (gI (sI s 287 k (gI s 282 k)) 283 k)) 284 k)) 285 k)) 286 k) = s5 at *
    have v1 : gI s5 287 k = gI s 282 k := by rw [← hs5, gI_sI_ne (by omega), gI_sI_ne (by omega), gI_sI_ne (by omega), gI_sI_ne (by omega), gI_sI_self]
    have v2 : gI s5 288 k = gI s 283 k := by rw [← hs5, gI_sI_ne (by omega), gI_sI_ne (by omega), gI_sI_ne (by omega), gI_sI_self, gI_sI_ne (by omega)]
    have v3 : gI s5 289 k = gI s 284 k := by rw [← hs5, gI_sI_ne (by omega), gI_sI_ne (by omega), gI_sI_self, gI_sI_ne (by omega), gI_sI_ne (by omega)]
    have v4 : gI s5 290 k = gI s 285 k := by rw [← hs5, gI_sI_ne (by omega), gI_sI_self, gI_sI_ne (by omega), gI_sI_ne (by omega), gI_sI_ne (by omega)]
    have v5 : gI s5 291 k = gI s 286 k := by rw [← hs5, gI_sI_self, gI_sI_ne (by omega), gI_sI_ne (by omega), gI_sI_ne (by omega), gI_sI_ne (by omega)]
    have vj : ∀ a j, j ≠ k → gI s5 a j = gI s a j := fun a j hj => by rw [← hs5, gI_sI_nj hj, gI_sI_nj hj, gI_sI_nj hj, gI_sI_nj hj, gI_sI_nj hj]
    refine ⟨rgO (by omega) (by omega), ih (k + 1) s5 ⟨by omega, by omega, g0.trans hf, fun a ha j => (lo a ha j).trans (g1 a ha j), fun i i0 i1 => ?_, fun i i0 i1 => ?_⟩ (by omega)⟩
    · by_cases e : i = k
      · rw [e]
        exact RowX.move hrow (fun j => (lo 280 (by omega) j).trans (g1 280 (by omega) j)) (v1.trans (g1 _ (by omega) k)) (v2.trans (g1 _ (by omega) k)) (v3.trans (g1 _ (by omega) k)) (v4.trans (g1 _ (by omega) k)) (v5.trans (g1 _ (by omega) k))
      · exact RowX.kept (g4 i i0 (by omega)) (lo 280 (by omega)) (vj _ _ e) (vj _ _ e) (vj _ _ e) (vj _ _ e) (vj _ _ e)
    · by_cases e : i = k
      · rw [e]; exact v5.trans (g1 _ (by omega) k)
      · exact (vj _ _ e).trans (g5 i i0 (by omega))
end MROWS
