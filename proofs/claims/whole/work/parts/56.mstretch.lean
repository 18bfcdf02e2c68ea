/-! the reference: stretches, mapping -/
theorem ptS_m (X : Fn) (x y : Int) : X.m ≤ (ptS X x y).m := by
  by_cases h : 0 < X.m ∧ X.E (X.m - 1) = x
  · rw [ptS_pos h]; exact Int.le_refl _
  · rw [ptS_neg h]; show X.m ≤ X.m + 1; omega
theorem fnG_mono (F L : Int → Int) (b e : Int) (p : Nat) : ∀ k : Nat, (fnG F L b e p).m ≤ (fnG F L b e (p + k)).m := by
  intro k
  induction k with
  | zero => exact Int.le_refl _
  | succ k ih =>
    have : (fnG F L b e (p + k)).m ≤ (fnG F L b e (p + (k + 1))).m := by
      show _ ≤ (fnG F L b e (p + k + 1)).m
      rw [fnG]
      split
      · exact Int.le_refl _
      · exact ptS_m _ _ _
    omega
theorem inG_congr {T : Int → Sb} {n : Int} {S : Sb} {X Y : Fn} : ∀ k : Nat, (∀ j : Int, 0 ≤ j → j < k → X.B j = Y.B j ∧ X.E j = Y.E j) → inG T n S X k = inG T n S Y k := by
  intro k
  induction k with
  | zero => intro _; rfl
  | succ k ih =>
    intro h
    have h1 := ih (fun j j0 j1 => h j j0 (by omega))
    have h2 := h (k : Int) (by omega) (by omega)
    rw [inG, inG, h1, h2.1, h2.2]
section MSTRETCH
variable {m : Sg} {A : St} {S : Sb} {X : Int → Sb} {cn o old come : Int}
/-- the rows as e stretches of Y have come -/
def EmM (m s : Sg) (S : Sb) (X : Int → Sb) (cn come : Int) (Y : Fn) (e g : Int) : Prop :=
  frS2 m s ∧ (∀ a, 287 ≤ a → ∀ j, gI s a j = gI m a j) ∧ gI s 279 17 = gI m 279 17 ∧ gI s 279 16 = g ∧ (come ≠ 0 → cn + e ≤ 16 ∧ RwE s (cn + e) (inG X cn S Y e.toNat))
theorem EmM.g {s : Sg} {Y : Fn} {e g v : Int} (h : EmM m s S X cn come Y e g) : EmM m (sI s 279 16 v) S X cn come Y e v := by
  obtain ⟨h1, h2, h3, h4, h5⟩ := h
  refine ⟨h1.trans (frS2.sI (by omega)), fun a ha j => (gI_sI_ne (by omega)).trans (h2 a ha j), (gI_sI_nj (by omega)).trans h3, gI_sI_self _ _ _ _, fun z => ⟨(h5 z).1, ?_⟩⟩
  obtain ⟨O, hO⟩ := (h5 z).2
  exact ⟨O, hO.kept (fun j => gI_sI_ne (by omega)) (gI_sI_nj (by omega)) (fun a _ _ j => gI_sI_ne (by omega))⟩
def fromS (Y : Fn) : Int := if Y.m = 0 then -9 else Y.B (Y.m - 1)
def toS (Y : Fn) : Int := if Y.m = 0 then -9 else Y.E (Y.m - 1)
def emS (Y : Fn) : Int := if Y.m = 0 then 0 else Y.m - 1
theorem flush_sp {P : Int → Int → Int → Sg → Prop} {s : Sg} {Y : Fn} {k x8 x9 x10 x11 : Int} {Q : Int → Sg → Prop} (hold : come ≠ 0 → 0 ≤ old ∧ old < 16 ∧ OldM m old S o) (hcn : 0 ≤ cn) (hY : InvFn Y 10 9999) (hE : EmM m s S X cn come Y (emS Y) (emS Y))
    (h0 : come ≠ 0 → 16 < cn + Y.m → ∀ s', frS2 m s' → Q 0 s')
    (h1 : ∀ s', EmM m s' S X cn come Y Y.m Y.m → (x10 = 0 → wj_X10_stretchesOf_290 P S.b S.e old come x11 k (-9) s' Q) ∧ (¬ x10 = 0 → (rgI ((x11 + x9) - x8) ∧ wj_X10_stretchesOf_290 P S.b S.e old come x11 k ((x11 + x9) - x8) s' Q))) :
    wj_X10_stretchesOf_203 P S.b S.e old come (fromS Y) (toS Y) k x8 x9 x10 x11 s Q := by
  have m0 := hY.1
  have m1 := hY.2.1
  have e16 : gI s 279 16 = emS Y := hE.2.2.2.1
  by_cases hm : Y.m = 0
  · have ef : fromS Y = -9 := if_pos hm
    have ee : emS Y = Y.m := by unfold emS; rw [if_pos hm, hm]
    rw [ee] at hE e16
    have late : wj_X10_stretchesOf_247 P S.b S.e old come (fromS Y) k x8 x9 x10 x11 s Q := by
      refine ⟨fun _ => ?_, fun z => absurd ef z⟩
      rw [e16]
      refine ⟨rgO (by omega) (by omega), ?_⟩
      rintro s1 rfl
      rw [Int.add_zero]
      exact h1 _ hE.g
    exact ⟨fun _ => ⟨fun _ => late, fun z => absurd ef z⟩, fun z => absurd ef z⟩
  · have ef : fromS Y = Y.B (Y.m - 1) := if_neg hm
    have et : toS Y = Y.E (Y.m - 1) := if_neg hm
    have ee : emS Y = Y.m - 1 := if_neg hm
    have hb := hY.2.2 (Y.m - 1) (by omega) (by omega)
    have hn9 : ¬ fromS Y = -9 := by rw [ef]; omega
    rw [ee] at hE e16
    have late : ∀ s2, EmM m s2 S X cn come Y Y.m (Y.m - 1) → wj_X10_stretchesOf_247 P S.b S.e old come (fromS Y) k x8 x9 x10 x11 s2 Q := fun s2 hE2 => by
      refine ⟨fun z => absurd z hn9, fun _ => ?_⟩
      have e2 : gI s2 279 16 = Y.m - 1 := hE2.2.2.2.1
      rw [e2]
      refine ⟨rgO (by omega) (by omega), ?_⟩
      rintro s1 rfl
      rw [show Y.m - 1 + 1 = Y.m by omega]
      exact h1 _ hE2.g
    by_cases hc : come = 0
    · have h247 := late s ⟨hE.1, hE.2.1, hE.2.2.1, e16, fun z => absurd hc z⟩
      exact ⟨fun z => absurd z hn9, fun _ => ⟨fun _ => ⟨fun z => absurd z hn9, fun _ => ⟨fun _ => h247, fun z => absurd hc z⟩⟩, fun z => absurd hc z⟩⟩
    · obtain ⟨c16, O, hO⟩ := hE.2.2.2.2 hc
      have e9 : gI s 279 9 = cn + (Y.m - 1) := hO.1
      refine ⟨fun z => absurd z hn9, fun _ => ⟨fun z => absurd z hc, fun _ => ?_⟩⟩
      rw [e9]
      refine ⟨fun z => h0 hc (by omega) s hE.1, fun z => ⟨fun y => absurd y hn9, fun _ => ⟨fun y => absurd y hc, fun _ => ?_⟩⟩⟩
      obtain ⟨o0, o1, hS⟩ := hold hc
      have hS2 : OldM s old S o := RowX.kept hS hE.1.1 (hE.2.1 _ (by omega) _) (hE.2.1 _ (by omega) _) (hE.2.1 _ (by omega) _) (hE.2.1 _ (by omega) _) (hE.2.1 _ (by omega) _)
      refine inserts_sp hO (by omega) (by omega) o0 o1 hS2 (fun s2 hf2 hc2 hR2 => late s2 ⟨hE.1.trans hf2.1, fun a ha j => (hc2 a ha j).trans (hE.2.1 a ha j), (hf2.2 17 (by omega)).trans hE.2.2.1, (hf2.2 16 (by omega)).trans e16, fun _ => ⟨by omega, ?_⟩⟩)
      have e1 := inG_succ X cn S Y (k := Y.m - 1) (by omega)
      rw [show Y.m - 1 + 1 = Y.m by omega] at e1
      rw [show cn + (Y.m - 1) + 1 = cn + Y.m by omega, ef, et] at hR2
      rw [e1]
      exact ⟨_, hR2⟩
theorem stretchesOf_sp {Q : Int → Sg → Prop} (hP : PgM m A) (hI : InvCu A.pn A.F A.L) (hS : InvSb S) (hold : come ≠ 0 → 0 ≤ old ∧ old < 16 ∧ OldM m old S o) (hcn : 0 ≤ cn) (hR : come ≠ 0 → cn ≤ 16 ∧ RwE m cn X)
    (h0 : come ≠ 0 → 16 < cn + (fnS A.pn A.F A.L S).m → ∀ s, frS2 m s → Q 0 s)
    (h1 : ∀ s, EmM m s S X cn come (fnS A.pn A.F A.L S) (fnS A.pn A.F A.L S).m (fnS A.pn A.F A.L S).m → Q 1 s) : wp_X10_stretchesOf S.b S.e old come m Q := by
  have n0 := hI.1
  have n1 := hI.2.1
  have b := rgb hS
  have bl := hI.2.2.2
  rintro s0 rfl
  intro P hPP
  have init : EmM m (sI m 279 16 0) S X cn come (fnG A.F A.L S.b S.e 0) 0 0 := by
    have : EmM m m S X cn come (fnG A.F A.L S.b S.e 0) 0 (gI m 279 16) := ⟨frS2.rf m, fun _ _ _ => rfl, rfl, rfl, fun z => ⟨by have := (hR z).1; omega, by rw [Int.add_zero]; exact (hR z).2⟩⟩
    exact this.g
  refine lq4 (P := P) (fun _ _ k _ => (A.pn + 1 - k).toNat) (fun f t k s => 0 ≤ k ∧ ((k ≤ A.pn ∧ f = fromS (fnG A.F A.L S.b S.e k.toNat) ∧ t = toS (fnG A.F A.L S.b S.e k.toNat) ∧ EmM m s S X cn come (fnG A.F A.L S.b S.e k.toNat) (emS (fnG A.F A.L S.b S.e k.toNat)) (emS (fnG A.F A.L S.b S.e k.toNat))) ∨ (k = A.pn + 1 ∧ EmM m s S X cn come (fnS A.pn A.F A.L S) (fnS A.pn A.F A.L S).m (fnS A.pn A.F A.L S).m))) ?_ (-9) (-9) 0 _ ⟨by omega, Or.inl ⟨n0, rfl, rfl, init⟩⟩
  rintro f t k s ⟨k0, hk⟩ ih
  rcases hk with ⟨k1, rfl, rfl, hE⟩ | ⟨rfl, hE⟩
  · have hps := hP.kept hE.1.1
    have en : gI s 280 0 = A.pn := hps.1.1
    refine hPP _ _ k s ⟨by omega, by omega, ?_⟩
    rw [en]
    refine ⟨fun z => by omega, fun _ => ⟨by omega, by omega, ?_⟩⟩
    have hY := (fnG_inv hI (b := S.b) (e := S.e) hS.1 k.toNat (by omega)).mono (p' := 10) (u' := 9999) (by omega) (by have := (hI.sm k0 k1).2; omega)
    have fail : ∀ kk : Int, 0 ≤ kk → kk ≤ A.pn → come ≠ 0 → 16 < cn + (fnG A.F A.L S.b S.e kk.toNat).m → ∀ s', frS2 m s' → Q 0 s' := fun kk a0 a1 hc hh s' hf' => by
      refine h0 hc ?_ s' hf'
      have := fnG_mono A.F A.L S.b S.e kk.toNat (A.pn.toNat - kk.toNat)
      rw [show kk.toNat + (A.pn.toNat - kk.toNat) = A.pn.toNat by omega] at this
      unfold fnS
      omega
    rcases Int.lt_or_le k A.pn with hlt | hge
    · have hp := hI.2.2.1 k k0 hlt
      have sm1 := hI.sm (k := k) k0 (by omega)
      have sm2 := hI.sm (k := k + 1) (by omega) (by omega)
      rw [smS_succ A.L k0] at sm2
      have e1 := fnG_succ A.F A.L S.b S.e k0
      generalize hYd : fnG A.F A.L S.b S.e k.toNat = Y at *
      have key : ∀ lo hi, lo = max S.b (A.F k) → hi = min S.e (A.F k + A.L k) → wj_X10_stretchesOf_105 P S.b S.e old come (fromS Y) (toS Y) k lo hi s Q := fun lo hi elo ehi => by
        rw [← elo, ← ehi] at e1
        have skip : hi - lo < 4 → wj_X10_stretchesOf_131 P S.b S.e old come (fromS Y) (toS Y) k lo hi s Q := fun hs => by
          rw [if_pos hs] at e1
          refine ⟨fun _ => ⟨fun _ => ⟨fun _ => ⟨by omega, by omega, ?_⟩, fun z => absurd rfl z⟩, fun z => absurd rfl z⟩, fun z => absurd rfl z⟩
          rw [en]
          refine ⟨fun z => by omega, fun _ => ⟨rgO (by omega) (by omega), ih _ _ (k + 1) s ⟨by omega, Or.inl ⟨by omega, by rw [e1], by rw [e1], by rw [e1]; exact hE⟩⟩ (by omega)⟩⟩
        refine ⟨by omega, by omega, ?_⟩
        rw [en]
        refine ⟨fun z => by omega, fun _ => ⟨rgO (by omega) (by omega), fun z => skip z, fun z => ⟨fun y => absurd y (by decide), fun _ => pieceNew_sp hps.1 hI k0 (by omega) (pieceFirst_sp hps.1 n1 k0 hlt ⟨rgO (by omega) (by omega), ?_⟩)⟩⟩⟩
        rw [if_neg z] at e1
        refine ⟨fun y => absurd y (by decide), fun _ => ⟨fun y => ?_, fun y => ⟨fun y2 => absurd y2 (by decide), fun _ => ?_⟩⟩⟩
        · -- it goes on where the one before ends
          have hm : Y.m ≠ 0 := fun w => by
            have : toS Y = -9 := if_pos w
            omega
          have et : toS Y = Y.E (Y.m - 1) := if_neg hm
          have hy0 := hY.1
          have hpos : 0 < Y.m ∧ Y.E (Y.m - 1) = smS A.L k.toNat + lo - A.F k := ⟨by omega, by rw [← et, y]⟩
          rw [ptS_pos hpos] at e1
          rintro w rfl
          refine ⟨rgO (by omega) (by omega), rgO (by omega) (by omega), ih _ _ (k + 1) s ⟨by omega, Or.inl ⟨by omega, ?_, ?_, ?_⟩⟩ (by omega)⟩
          · rw [e1]; unfold fromS
            show (if Y.m = 0 then -9 else Y.B (Y.m - 1)) = (if Y.m = 0 then -9 else Y.B (Y.m - 1))
            rfl
          · rw [e1]; unfold toS
            show _ = (if Y.m = 0 then -9 else (if Y.m - 1 = Y.m - 1 then smS A.L k.toNat + hi - A.F k else Y.E (Y.m - 1)))
            rw [if_neg hm, if_pos rfl]
            omega
          · rw [e1]
            have ee : emS (mkF Y.m Y.B fun j => if j = Y.m - 1 then smS A.L k.toNat + hi - A.F k else Y.E j) = emS Y := rfl
            rw [ee]
            obtain ⟨q1, q2, q3, q4, q5⟩ := hE
            refine ⟨q1, q2, q3, q4, fun hc => ⟨(q5 hc).1, ?_⟩⟩
            have he : emS Y = Y.m - 1 := if_neg hm
            have := inG_congr (T := X) (n := cn) (S := S) (X := Y) (Y := mkF Y.m Y.B fun j => if j = Y.m - 1 then smS A.L k.toNat + hi - A.F k else Y.E j) (emS Y).toNat (fun j j0 j1 => ⟨rfl, by
              show Y.E j = if j = Y.m - 1 then smS A.L k.toNat + hi - A.F k else Y.E j
              rw [if_neg (by omega)]⟩)
            rw [← this]
            exact (q5 hc).2
        · have hneg : ¬ (0 < Y.m ∧ Y.E (Y.m - 1) = smS A.L k.toNat + lo - A.F k) := fun w => by
            have et : toS Y = Y.E (Y.m - 1) := if_neg (by omega)
            exact y (by rw [et]; exact w.2.symm)
          rw [ptS_neg hneg] at e1
          have ym0 := hY.1
          have hne : ¬ (Y.m + 1 = 0) := by omega
          refine flush_sp hold hcn hY hE (fail k k0 (by omega) |> fun g hc hh => g hc (by rw [hYd]; exact hh)) (fun s' hE' => ⟨fun w => absurd w (by decide), fun _ => ⟨rgO (by omega) (by omega), rgO (by omega) (by omega), ih _ _ (k + 1) s' ⟨by omega, Or.inl ⟨by omega, ?_, ?_, ?_⟩⟩ (by omega)⟩⟩)
          · rw [e1]; unfold fromS
            show _ = (if Y.m + 1 = 0 then -9 else (if Y.m + 1 - 1 = Y.m then smS A.L k.toNat + lo - A.F k else Y.B (Y.m + 1 - 1)))
            rw [if_neg hne, if_pos (by omega)]
          · rw [e1]; unfold toS
            show _ = (if Y.m + 1 = 0 then -9 else (if Y.m + 1 - 1 = Y.m then smS A.L k.toNat + hi - A.F k else Y.E (Y.m + 1 - 1)))
            rw [if_neg hne, if_pos (by omega)]
            omega
          · rw [e1]
            have ee : emS (mkF (Y.m + 1) (fun j => if j = Y.m then smS A.L k.toNat + lo - A.F k else Y.B j) fun j => if j = Y.m then smS A.L k.toNat + hi - A.F k else Y.E j) = Y.m := by
              unfold emS
              show (if Y.m + 1 = 0 then 0 else Y.m + 1 - 1) = Y.m
              rw [if_neg hne]; omega
            rw [ee]
            obtain ⟨q1, q2, q3, q4, q5⟩ := hE'
            refine ⟨q1, q2, q3, q4, fun hc => ⟨(q5 hc).1, ?_⟩⟩
            have := inG_congr (T := X) (n := cn) (S := S) (X := Y) (Y := mkF (Y.m + 1) (fun j => if j = Y.m then smS A.L k.toNat + lo - A.F k else Y.B j) fun j => if j = Y.m then smS A.L k.toNat + hi - A.F k else Y.E j) Y.m.toNat (fun j j0 j1 => ⟨by
              show Y.B j = if j = Y.m then smS A.L k.toNat + lo - A.F k else Y.B j
              rw [if_neg (by omega)], by
              show Y.E j = if j = Y.m then smS A.L k.toNat + hi - A.F k else Y.E j
              rw [if_neg (by omega)]⟩)
            rw [← this]
            exact (q5 hc).2
      have mid : ∀ lo, lo = max S.b (A.F k) → wj_X10_stretchesOf_58 P S.b S.e old come (fromS Y) (toS Y) k lo s Q := fun lo elo => by
        refine ⟨by omega, by omega, ?_⟩
        rw [en]
        refine ⟨fun z => by omega, fun _ => pieceFirst_sp hps.1 n1 k0 hlt (pieceLong_sp hps.1 n1 k0 hlt ⟨rgO (by omega) (by omega), fun z => key lo _ elo (by omega), fun z => pieceFirst_sp hps.1 n1 k0 hlt (pieceLong_sp hps.1 n1 k0 hlt ⟨rgO (by omega) (by omega), key lo _ elo (by omega)⟩)⟩)⟩
      refine ⟨fun z => by omega, fun _ => pieceFirst_sp hps.1 n1 k0 hlt ⟨fun z => mid _ (by omega), fun z => pieceFirst_sp hps.1 n1 k0 hlt (mid _ (by omega))⟩⟩
    · have ek : k = A.pn := by omega
      subst ek
      have eY : fnG A.F A.L S.b S.e A.pn.toNat = fnS A.pn A.F A.L S := rfl
      rw [eY] at hY hE ⊢
      generalize hYd : fnS A.pn A.F A.L S = Y at *
      have fl : wj_X10_stretchesOf_203 P S.b S.e old come (fromS Y) (toS Y) A.pn S.b S.e 0 (-9) s Q :=
        flush_sp hold hcn hY hE h0 (fun s' hE' => ⟨fun _ => ⟨rgO (by omega) (by omega), ih _ _ (A.pn + 1) s' ⟨by omega, Or.inr ⟨rfl, hE'⟩⟩ (by omega)⟩, fun z => absurd rfl z⟩)
      refine ⟨fun _ => ⟨by omega, by omega, ?_⟩, fun z => by omega⟩
      rw [en]
      refine ⟨fun _ => ⟨by omega, by omega, ?_⟩, fun z => by omega⟩
      rw [en]
      refine ⟨fun _ => ⟨fun _ => ⟨fun _ => ⟨fun _ => ⟨by omega, by omega, ?_⟩, fun z => absurd rfl z⟩, fun z => absurd rfl z⟩, fun z => absurd rfl z⟩, fun z => by omega⟩
      rw [en]
      exact ⟨fun _ => fl, fun z => absurd rfl z⟩
  · have hps := hP.kept hE.1.1
    have en : gI s 280 0 = A.pn := hps.1.1
    refine hPP _ _ _ s ⟨by omega, by omega, ?_⟩
    rw [en]
    exact ⟨fun _ => h1 s hE, fun z => by omega⟩
end MSTRETCH
