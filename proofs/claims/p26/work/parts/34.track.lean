/-! the class's tracks: order, insertion, removal -/
def fdS (g : Int → Int → Int) : Nat → Int
  | 0 => 0
  | k + 1 => g (fdS g k) (k : Int)
theorem fdS_succ (g : Int → Int → Int) {k : Int} (h : 0 ≤ k) : fdS g (k + 1).toNat = g (fdS g k.toNat) k := by
  rw [show (k + 1).toNat = k.toNat + 1 by omega]
  show g (fdS g k.toNat) (k.toNat : Int) = _
  rw [show ((k.toNat : Nat) : Int) = k by omega]
theorem smS_succ (L : Int → Int) {k : Int} (h : 0 ≤ k) : smS L (k + 1).toNat = smS L k.toNat + L k := by
  rw [show (k + 1).toNat = k.toNat + 1 by omega]
  show smS L k.toNat + L (k.toNat : Int) = _
  rw [show ((k.toNat : Nat) : Int) = k by omega]
theorem posS_succ (f : Int → Int) (x : Int) {k : Int} (h : 1 ≤ k) : posS f x k.toNat = if x < f (k - 1) then posS f x (k - 1).toNat else k.toNat := by
  rw [show k.toNat = (k - 1).toNat + 1 by omega, posS, show (((k - 1).toNat : Nat) : Int) = k - 1 by omega]
/-- i's row stands at k, those from k on one further -/
def mvS (T : Int → Sb) (i k : Int) : Int → Sb := fun j => if j ≤ i then insF T k (T i) j else T j
theorem mvS_self (T : Int → Sb) (i : Int) (j : Int) : mvS T i i j = T j := by
  unfold mvS insF
  by_cases h : j ≤ i
  · rw [if_pos h]
    by_cases h2 : j < i
    · rw [if_pos h2]
    · rw [if_neg h2, if_pos (by omega), show j = i by omega]
  · rw [if_neg h]
theorem mvS_lo {T : Int → Sb} {i k j : Int} (h : j < k) (h2 : k ≤ i) : mvS T i k j = T j := by
  unfold mvS insF
  rw [if_pos (by omega), if_pos h]
theorem mvS_at {T : Int → Sb} {i k : Int} (h2 : k ≤ i) : mvS T i k k = T i := by
  unfold mvS insF
  rw [if_pos h2, if_neg (by omega), if_pos rfl]
theorem mvS_mid {T : Int → Sb} {i k j : Int} (h : k < j) (h2 : j ≤ i) : mvS T i k j = T (j - 1) := by
  unfold mvS insF
  rw [if_pos h2, if_neg (by omega), if_neg (by omega)]
theorem mvS_hi {T : Int → Sb} {i k j : Int} (h : i < j) : mvS T i k j = T j := by
  unfold mvS
  rw [if_neg (by omega)]
section TRACK
variable {c : Sg} {q r : Nat} {n : Int} {T : Int → Sb} {S : Sb}
theorem TrC.swap (h : TrC c q n T) {a b : Int} (a0 : 0 ≤ a) (a1 : a < n) (b0 : 0 ≤ b) (b1 : b < n) (hn : n ≤ 16) (ht : trk q) : TrC (sR (sR c (q + 1) a (gR c (q + 1) b)) (q + 1) b (gR c (q + 1) a)) q n (fun j => if j = a then T b else if j = b then T a else T j) := by
  obtain ⟨h1, h2, h3⟩ := h
  have hg : ∀ j, gR (sR (sR c (q + 1) a (gR c (q + 1) b)) (q + 1) b (gR c (q + 1) a)) (q + 1) j = gR c (q + 1) (if j = a then b else if j = b then a else j) := fun j => by
    by_cases eb : j = b
    · rw [eb, gR_sR_self]
      by_cases e : b = a
      · rw [if_pos e, e]
      · rw [if_neg e, if_pos rfl]
    · rw [gR_sR_nj eb]
      by_cases ea : j = a
      · rw [ea, gR_sR_self, if_pos rfl]
      · rw [gR_sR_nj ea, if_neg ea, if_neg eb]
  have hf : frR c (sR (sR c (q + 1) a (gR c (q + 1) b)) (q + 1) b (gR c (q + 1) a)) (q + 1) := frR.sR.trans frR.sR
  have hp : ∀ j, 0 ≤ j → j < 16 → 0 ≤ (if j = a then b else if j = b then a else j) ∧ (if j = a then b else if j = b then a else j) < 16 := fun j j0 j1 => by (repeat' split) <;> omega
  refine ⟨h1, ⟨fun j j0 j1 => ?_, fun i j i0 i1 j0 j1 => ?_⟩, fun j j0 j1 => ?_⟩
  · rw [hg j]
    exact h2.1 _ (hp j j0 j1).1 (hp j j0 j1).2
  · rw [hg i, hg j]
    intro e
    have e2 := h2.2 _ _ (hp i i0 i1).1 (hp i i0 i1).2 (hp j j0 j1).1 (hp j j0 j1).2 e
    (repeat' split at e2) <;> omega
  · rw [hg j]
    dsimp only
    have hb := h2.1 _ (hp j j0 (by omega)).1 (hp j j0 (by omega)).2
    by_cases ea : j = a
    · rw [if_pos ea] at hb ⊢
      rw [if_pos ea]
      exact (h3 b b0 b1).keptR hf (by omega)
    · by_cases eb : j = b
      · rw [if_neg ea, if_pos eb] at hb ⊢
        rw [if_neg ea, if_pos eb]
        exact (h3 a a0 a1).keptR hf (by omega)
      · rw [if_neg ea, if_neg eb] at hb ⊢
        rw [if_neg ea, if_neg eb]
        exact (h3 j j0 j1).keptR hf (by omega)
theorem settle_sp {i : Int} {Q : Int → Sg → Prop} (h : TrC c q n T) (hn : n ≤ 16) (ht : trk q) (i0 : 0 ≤ i) (i1 : i < n) (hQ : ∀ c', frC c c' q (q + 18) → TrC c' q n (mvS T i (posS (bgS T) (T i).b i.toNat)) → Q (posS (bgS T) (T i).b i.toNat) c') : wp_X7_settle q i c Q := by
  refine tHas_sp h.1 (fun _ => ⟨fun z => by omega, fun _ => ?_⟩) (fun z => absurd ⟨i0, i1⟩ z)
  intro P hP
  refine lq2 (P := P) (fun k _ => k.toNat) (fun k s => 0 ≤ k ∧ k ≤ i ∧ frC c s q (q + 18) ∧ TrC s q n (mvS T i k) ∧ posS (bgS T) (T i).b k.toNat = posS (bgS T) (T i).b i.toNat) ?_ i c ⟨i0, by omega, frC.rf _ _ _, h.congr (fun j _ _ => (mvS_self T i j).symm), rfl⟩
  rintro k s ⟨k0, k1, hf, hs, hp⟩ ih
  have done : (posS (bgS T) (T i).b i.toNat : Int) = k → Q k s := fun e => by
    have := hQ s hf (by rw [e]; exact hs)
    rw [e] at this
    exact this
  refine hP k s ⟨fun z => done ?_, fun z => ⟨by omega, by omega, by omega, by omega, ?_⟩⟩
  · rw [← hp, show k.toNat = 0 by omega]
    show ((0 : Nat) : Int) = k
    omega
  · rw [(hs.2.2 (k - 1) (by omega) (by omega)).1.1, (hs.2.2 k k0 (by omega)).1.1, mvS_lo (by omega) k1, mvS_at k1]
    rw [posS_succ _ _ (by omega)] at hp
    refine ⟨fun y => done ?_, fun y => ⟨by omega, by omega, by omega, by omega, by omega, by omega, ?_⟩⟩
    · rw [if_neg (show ¬ (T i).b < bgS T (k - 1) by show ¬ (T i).b < (T (k - 1)).b; omega)] at hp
      rw [← hp]
      omega
    · rw [if_pos (show (T i).b < bgS T (k - 1) by show (T i).b < (T (k - 1)).b; omega)] at hp
      rintro s1 rfl
      refine ⟨by omega, by omega, ?_⟩
      rintro s2 rfl
      refine ⟨rgO (by omega) (by omega), ih (k + (-1)) _ ⟨by omega, by omega, hf.trans ((frC.sR (by omega) (by omega)).trans (frC.sR (by omega) (by omega))), (hs.swap (a := k - 1) (b := k) (by omega) (by omega) (by omega) (by omega) hn ht).congr (fun j j0 j1 => ?_), ?_⟩ (by omega)⟩
      · by_cases e1 : j = k - 1
        · rw [if_pos e1, mvS_at k1, e1, show k + (-1) = k - 1 by omega, mvS_at (by omega)]
        · rw [if_neg e1]
          by_cases e2 : j = k
          · rw [if_pos e2, mvS_lo (by omega) k1, e2, mvS_mid (by omega) k1]
          · rw [if_neg e2]
            by_cases e3 : j < k
            · rw [mvS_lo e3 k1, mvS_lo (by omega) (by omega)]
            · by_cases e4 : j ≤ i
              · rw [mvS_mid (by omega) e4, mvS_mid (by omega) e4]
              · rw [mvS_hi (by omega), mvS_hi (by omega)]
      · rw [← hp]
        rfl
/-- the row behind the others is written -/
theorem TrC.grow (h : TrC c q n T) (n0 : 0 ≤ n) (hn : n < 16) (ht : trk q) {c' : Sg} (hf : frC c c' (gR c (q + 1) n) (gR c (q + 1) n + 1)) (hS : SbC c' (gR c (q + 1) n) S) : TrC (sI c' q 2 (gI c' q 2 + 1)) q (n + 1) (fun j => if j = n then S else T j) ∧ frC c (sI c' q 2 (gI c' q 2 + 1)) q (q + 18) ∧ gI c' q 2 = n := by
  obtain ⟨h1, h2, h3⟩ := h
  have hr := h2.1 n n0 hn
  obtain ⟨t1, t2⟩ := ht
  have e : gI c' q 2 = n := ((hf.1 q (by omega)).1 2).trans h1
  have hg : ∀ j, gR (sI c' q 2 (gI c' q 2 + 1)) (q + 1) j = gR c (q + 1) j := fun j => (hf.1 (q + 1) (by omega)).2 j
  have hf2 : frC c' (sI c' q 2 (gI c' q 2 + 1)) q (q + 1) := frC.sI (by omega) (by omega)
  refine ⟨⟨by rw [gI_sI_self, e], h2.kept hg, fun j j0 j1 => ?_⟩, (hf.mono (by omega) (by omega)).trans (hf2.mono (by omega) (by omega)), e⟩
  rw [hg j]
  dsimp only
  by_cases ej : j = n
  · rw [if_pos ej, ej]
    exact hS.kept hf2 (by omega) (by omega) (by omega)
  · rw [if_neg ej]
    have hj := h2.1 j j0 (by omega)
    have : gR c (q + 1) j ≠ gR c (q + 1) n := fun z => ej (h2.2 j n j0 (by omega) n0 hn z)
    exact ((h3 j j0 (by omega)).kept hf (by omega) (by omega) (by omega)).kept hf2 (by omega) (by omega) (by omega)
theorem mvS_ins {n : Int} (n0 : 0 ≤ n) : ∀ j, j < n + 1 → mvS (fun j => if j = n then S else T j) n (posS (bgS (fun j => if j = n then S else T j)) S.b n.toNat) j = insF T (posS (bgS T) S.b n.toNat) S j := by
  intro j j1
  have hp : posS (bgS (fun j => if j = n then S else T j)) S.b n.toNat = posS (bgS T) S.b n.toNat := posS_congr (fun j j0 j1 => by
    show Sb.b (if j = n then S else T j) = (T j).b
    rw [if_neg (by omega)])
  have hl := posS_le (bgS T) S.b n.toNat
  rw [hp]
  unfold mvS insF
  dsimp only
  rw [if_pos (by omega), if_pos rfl]
  by_cases e1 : j < (posS (bgS T) S.b n.toNat : Int)
  · rw [if_pos e1, if_pos e1, if_neg (by omega)]
  · rw [if_neg e1, if_neg e1]
    by_cases e2 : j = (posS (bgS T) S.b n.toNat : Int)
    · rw [if_pos e2, if_pos e2]
    · rw [if_neg e2, if_neg e2, if_neg (by omega)]
theorem settleLast_sp {c1 : Sg} {Q : Int → Sg → Prop} (n0 : 0 ≤ n) (hn : n < 16) (ht : trk q) (h : TrC c1 q (n + 1) (fun j => if j = n then S else T j)) (hQ : ∀ c', frC c1 c' q (q + 18) → TrC c' q (n + 1) (insF T (posS (bgS T) S.b n.toNat) S) → Q (posS (bgS T) S.b n.toNat) c') : wp_X7_settle q n c1 Q := by
  refine settle_sp h (by omega) ht n0 (by omega) (fun c' hf hT => ?_)
  rw [if_pos rfl] at hT ⊢
  have hp : posS (bgS (fun j => if j = n then S else T j)) S.b n.toNat = posS (bgS T) S.b n.toNat := posS_congr (fun j j0 j1 => by
    show Sb.b (if j = n then S else T j) = (T j).b
    rw [if_neg (by omega)])
  rw [hp]
  exact hQ c' hf (hT.congr (fun j j0 j1 => mvS_ins n0 j j1))
theorem insert_sp {b e : Int} {p t : Pt} {r : Nat} {Q : Int → Sg → Prop} (h : TrC c q n T) (n0 : 0 ≤ n) (hn : n < 16) (ht : trk q) (hr : pcl r) (hp : PtC c r p) (hQ : ∀ c', frC c c' q (q + 18) → TrC c' q (n + 1) (insF T (posS (bgS T) b n.toNat) (mkS b e 1 p t)) → Q (posS (bgS T) b n.toNat) c') : wp_X7_insert q b e r c Q := by
  have e0 := h.1
  have hr0 := h.2.1.1 n n0 hn
  obtain ⟨t1, t2⟩ := ht
  refine ⟨fun z => ⟨fun _ => ⟨by omega, by omega, ?_⟩, fun z => absurd rfl z⟩, fun z => by omega⟩
  rw [e0]
  rintro s1 rfl s2 rfl s3 rfl s4 rfl
  have hf : frC c (sR (sI (sI (sI c (gR c (q + 1) n) 0 b) (gR c (q + 1) n) 1 e) (gR c (q + 1) n) 2 1) (gR c (q + 1) n) 3 r) (gR c (q + 1) n) (gR c (q + 1) n + 1) :=
    (frC.sI (by omega) (by omega)).trans ((frC.sI (by omega) (by omega)).trans ((frC.sI (by omega) (by omega)).trans (frC.sR (by omega) (by omega))))
  have hS : ∀ t, SbC (sR (sI (sI (sI c (gR c (q + 1) n) 0 b) (gR c (q + 1) n) 1 e) (gR c (q + 1) n) 2 1) (gR c (q + 1) n) 3 r) (gR c (q + 1) n) (mkS b e 1 p t) := fun t => by
    refine ⟨⟨?_, ?_, ?_⟩, ?_, fun z => absurd z (by show ¬ (1 : Int) = 2; omega)⟩
    · rw [gI_sR, gI_sI_nj (by omega), gI_sI_nj (by omega), gI_sI_self]; rfl
    · rw [gI_sR, gI_sI_nj (by omega), gI_sI_self]; rfl
    · rw [gI_sR, gI_sI_self]; rfl
    · rw [gR_sR_self]
      exact ⟨hr, hp.frz hr hf (by omega) (by omega)⟩
  obtain ⟨g1, g2, g3⟩ := h.grow n0 hn ⟨t1, t2⟩ hf (hS t)
  rw [g3] at g1 g2 ⊢
  refine ⟨rgO (by omega) (by omega), ?_⟩
  rintro s5 rfl
  rw [gI_sI_self, show n + 1 - 1 = n by omega]
  exact ⟨rgO (by omega) (by omega), settleLast_sp n0 hn ⟨t1, t2⟩ g1 (fun c' hf2 hT => hQ c' (g2.trans hf2) hT)⟩
theorem insertLike_sp {b e : Int} {r : Nat} {Q : Sg → Prop} (h : TrC c q n T) (n0 : 0 ≤ n) (hn : n < 16) (ht : trk q) (hr : r < q ∨ q + 18 ≤ r) (hS : SbC c r S) (hQ : ∀ c', frC c c' q (q + 18) → TrC c' q (n + 1) (insF T (posS (bgS T) b n.toNat) (mkS b e S.p S.one S.two)) → Q c') : wp_X7_insertLike q r b e c Q := by
  have e0 := h.1
  have hr0 := h.2.1.1 n n0 hn
  obtain ⟨t1, t2⟩ := ht
  refine ⟨fun z => ⟨fun _ => ⟨by omega, by omega, ?_⟩, fun z => absurd rfl z⟩, fun z => by omega⟩
  rw [e0]
  refine subBecome_sp hS (by omega) (by omega) (fun c1 hf1 hS1 => ?_)
  rintro s1 rfl s2 rfl
  have hf12 : frC c1 (sI (sI c1 (gR c (q + 1) n) 0 b) (gR c (q + 1) n) 1 e) (gR c (q + 1) n) (gR c (q + 1) n + 1) := (frC.sI (by omega) (by omega)).trans (frC.sI (by omega) (by omega))
  have hf := hf1.trans hf12
  have hS2 : SbC (sI (sI c1 (gR c (q + 1) n) 0 b) (gR c (q + 1) n) 1 e) (gR c (q + 1) n) (mkS b e S.p S.one S.two) := by
    obtain ⟨⟨k1, k2, k3⟩, ⟨ka, kb⟩, kc⟩ := hS1
    refine ⟨⟨?_, ?_, ?_⟩, ?_, fun z => ?_⟩
    · rw [gI_sI_nj (by omega), gI_sI_self]; rfl
    · rw [gI_sI_self]; rfl
    · rw [gI_sI_nj (by omega), gI_sI_nj (by omega)]; exact k3
    · exact ⟨ka, kb.frz ka hf12 (by omega) (by omega)⟩
    · exact ⟨(kc z).1, (kc z).2.frz (kc z).1 hf12 (by omega) (by omega)⟩
  obtain ⟨g1, g2, g3⟩ := h.grow n0 hn ⟨t1, t2⟩ hf hS2
  rw [g3] at g1 g2 ⊢
  refine ⟨rgO (by omega) (by omega), ?_⟩
  rintro s5 rfl
  rw [gI_sI_self, show n + 1 - 1 = n by omega]
  exact ⟨rgO (by omega) (by omega), settleLast_sp n0 hn ⟨t1, t2⟩ g1 (fun c' hf2 hT => hQ c' (g2.trans hf2) hT)⟩
theorem remove_sp {x : Int} {Q : Sg → Prop} (h : TrC c q n T) (hn : n ≤ 16) (ht : trk q) (x0 : 0 ≤ x) (x1 : x < n) (hQ : ∀ c', frC c c' q (q + 18) → TrC c' q (n - 1) (delF T x) → SbC c' (gR c' (q + 1) (n - 1)) (T x) → Q c') : wp_X7_remove q x c Q := by
  obtain ⟨h1, h2, h3⟩ := h
  obtain ⟨t1, t2⟩ := ht
  refine tHas_sp h1 (fun _ => ⟨fun z => by omega, fun _ => ⟨x0, by omega, ?_⟩⟩) (fun z => absurd ⟨x0, x1⟩ z)
  intro P hP
  refine lq2 (P := P) (fun k _ => (n - k).toNat) (fun k s => x ≤ k ∧ k < n ∧ frR c s (q + 1) ∧ ∀ j, gR s (q + 1) j = gR c (q + 1) (if x ≤ j ∧ j < k then j + 1 else j)) ?_ x c ⟨by omega, x1, frR.rf _ _, fun j => by rw [if_neg (by omega)]⟩
  rintro k s ⟨k0, k1, hf, hg⟩ ih
  have es : gI s q 2 = n := (hf.1 q 2).trans h1
  refine hP k s ⟨rgO (by omega) (by omega), fun z => ⟨rgO (by omega) (by omega), ?_⟩, fun z => ⟨by omega, by omega, by omega, by omega, ?_⟩⟩
  · rintro s1 rfl
    rw [gI_sI_self, es]
    refine ⟨by omega, by omega, ?_⟩
    rintro s2 rfl
    have ek : k = n - 1 := by omega
    subst ek
    have hfa : frC c (sR (sI s q 2 (n - 1)) (q + 1) (n - 1) (gR c (q + 1) x)) q (q + 18) := (hf.fr (by omega) (by omega)).trans ((frC.sI (by omega) (by omega)).trans (frC.sR (by omega) (by omega)))
    have hga : ∀ j, gR (sR (sI s q 2 (n - 1)) (q + 1) (n - 1) (gR c (q + 1) x)) (q + 1) j = gR c (q + 1) (if j = n - 1 then x else if x ≤ j ∧ j < n - 1 then j + 1 else j) := fun j => by
      by_cases ej : j = n - 1
      · rw [if_pos ej, ej, gR_sR_self]
      · rw [if_neg ej, gR_sR_nj ej]
        exact hg j
    have hp : ∀ j, 0 ≤ j → j < 16 → 0 ≤ (if j = n - 1 then x else if x ≤ j ∧ j < n - 1 then j + 1 else j) ∧ (if j = n - 1 then x else if x ≤ j ∧ j < n - 1 then j + 1 else j) < 16 := fun j j0 j1 => by (repeat' split) <;> omega
    have kp : ∀ j, 0 ≤ j → j < n → SbC (sR (sI s q 2 (n - 1)) (q + 1) (n - 1) (gR c (q + 1) x)) (gR c (q + 1) j) (T j) := fun j j0 j1 => by
      have hj := h2.1 j j0 (by omega)
      have w1 := (h3 j j0 j1).keptR hf (by omega)
      have w2 : SbC (sI s q 2 (n - 1)) (gR c (q + 1) j) (T j) := w1.kept (frC.sI (lo := q) (hi := q + 1) (by omega) (by omega)) (by omega) (by omega) (by omega)
      exact w2.keptR frR.sR (by omega)
    refine hQ _ hfa ⟨?_, ⟨fun j j0 j1 => ?_, fun i j i0 i1 j0 j1 => ?_⟩, fun j j0 j1 => ?_⟩ ?_
    · rw [gI_sR, gI_sI_self]
    · rw [hga j]
      exact h2.1 _ (hp j j0 j1).1 (hp j j0 j1).2
    · rw [hga i, hga j]
      intro e
      have e2 := h2.2 _ _ (hp i i0 i1).1 (hp i i0 i1).2 (hp j j0 j1).1 (hp j j0 j1).2 e
      (repeat' split at e2) <;> omega
    · rw [hga j, if_neg (by omega)]
      unfold delF
      by_cases e : j < x
      · rw [if_neg (by omega), if_pos e]
        exact kp j j0 (by omega)
      · rw [if_pos (by omega), if_neg e]
        exact kp (j + 1) (by omega) (by omega)
    · rw [hga, if_pos rfl]
      exact kp x x0 x1
  · rintro s1 rfl
    refine ⟨rgO (by omega) (by omega), ih (k + 1) _ ⟨by omega, by omega, hf.trans frR.sR, fun j => ?_⟩ (by omega)⟩
    by_cases ej : j = k
    · rw [ej, gR_sR_self, hg, if_neg (by omega), if_pos (by omega)]
    · rw [gR_sR_nj ej, hg]
      by_cases e : x ≤ j ∧ j < k
      · rw [if_pos e, if_pos (by omega)]
      · rw [if_neg e, if_neg (by omega)]
end TRACK
