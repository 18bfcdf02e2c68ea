/-! the class's add: what it does to the numbers; its new part has the numbers gN and gN + 1 -/
/-- how many bytes the new part keeps -/
def kpP (s : Sg) : Int := max 0 (min (gI s 0 1) 40)
def nwP (s : Sg) (x : Int) : Sg := (fun a b => if a = gN s ∧ b = 0 then x else if a = gN s + 1 ∧ 0 ≤ b ∧ b < kpP s then s.1 1 b else s.1 a b, s.2.1, gN s + 2, fun a => if a = gN s + 1 then kpP s else s.2.2.2 a)
theorem gI_nwP (s : Sg) (x : Int) (a : Nat) (b : Int) : gI (nwP s x) a b = if a = gN s ∧ b = 0 then x else if a = gN s + 1 ∧ 0 ≤ b ∧ b < kpP s then gI s 1 b else gI s a b := rfl
theorem gR_nwP (s : Sg) (x : Int) (a : Nat) (b : Int) : gR (nwP s x) a b = gR s a b := rfl
theorem gN_nwP (s : Sg) (x : Int) : gN (nwP s x) = gN s + 2 := rfl
theorem gL_nwP (s : Sg) (x : Int) (a : Nat) : gL (nwP s x) a = if a = gN s + 1 then kpP s else gL s a := rfl
theorem gI_nwP_lo {s : Sg} {x : Int} {a : Nat} (h : a < gN s) (b : Int) : gI (nwP s x) a b = gI s a b := by rw [gI_nwP, if_neg (by omega), if_neg (by omega)]
theorem gL_nwP_lo {s : Sg} {x : Int} {a : Nat} (h : a < gN s) : gL (nwP s x) a = gL s a := by rw [gL_nwP, if_neg (by omega)]
theorem WtE.nw {s : Sg} (h : WtE s) {x : Int} (hx : rgI x) : WtE (nwP s x) := by
  obtain ⟨h1, h2, h3, h4, h5, h6⟩ := h
  refine ⟨fun a b => ?_, h2, fun a ha => ?_, by rw [gN_nwP]; omega, by rw [gN_nwP]; omega, fun a => ?_⟩
  · rw [gI_nwP]
    split
    · exact hx
    · split
      · exact h1 _ _
      · exact h1 _ _
  · obtain ⟨⟨g1, g2⟩, g3, g4⟩ := h3 a ha
    exact ⟨⟨g1, by rw [gN_nwP]; show gR s a 3 < _; omega⟩, g3, by rw [gN_nwP]; show gR s a 4 < _; omega⟩
  · rw [gL_nwP]
    split
    · unfold kpP; omega
    · exact h6 a
def wj_X9_add_64 (x1 x2 x3 : Int) (s : Sg) (Q : Int → Sg → Prop) : Prop := wp_X1_record 4 s (fun s40 => (∀ j : Int, 0 ≤ j → j < kpP s40 → -128 ≤ gI s40 1 j ∧ gI s40 1 j ≤ 127) ∧ (WtE s40 → wp_X7_insert (4 + 8) x1 x2 (gN s40) (nwP s40 x3) (fun v45 s46 => Q v45 s46)))
/-- add up to the place where it makes a part (J); what it answers before that (R) -/
def wpA_35 (J : Prop) (R : Int → Prop) (s : Sg) : Prop := (gI s 0 1 = 0 → R (-10)) ∧ (¬ gI s 0 1 = 0 → wp_X9_firstWrongBlank s (fun v35 => ((v35 = (-9) → J) ∧ (¬ v35 = (-9) → (rgI ((-10) - v35) ∧ R ((-10) - v35))))))
def wpA (J : Prop) (R : Int → Prop) (x1 x2 x3 : Int) (s : Sg) : Prop :=
  wp_X9_isTime x1 x2 s (fun v21 => ((v21 = 0 → R (-1)) ∧ (¬ v21 = 0 → wp_X9_isWithin x3 0 3 s (fun v25 => ((v25 = 0 → R (-1)) ∧ (¬ v25 = 0 → wp_X7_isFull (4 + 8) s (fun v30 => ((v30 = 0 → wpA_35 J R s) ∧ (¬ v30 = 0 → R (-3))))))))))
section ADD
variable {c : Sg} {W : Wd}
theorem kd_row {q r : Nat} (hq : q = 4 ∨ q = 34 ∨ ∃ k, k < 8 ∧ q = 63 + 27 * k) (h1 : q + 10 ≤ r) (h2 : r < q + 26) : kdO r = 14 := by
  have e : r = q + (r - q) := by omega
  rw [e, kdO_blk (q := q + (r - q)) (r := r - q) (by
    rcases hq with h | h | ⟨k, hk, h⟩
    · exact Or.inr (Or.inl (by omega))
    · exact Or.inr (Or.inr (by omega))
    · exact Or.inl ⟨k, hk, by omega⟩) (by omega)]
  unfold kbO
  rw [if_neg (by omega), if_neg (by omega), if_neg (by omega), if_neg (by omega), if_neg (by omega), if_neg (by omega), if_neg (by omega), if_neg (by omega), if_neg (by omega), if_neg (by omega)]
theorem StC.nw {q : Nat} {A : St} {x : Int} (h : StC c q A) (hI : InvSt A) (hw : WtE c) (hq : q = 4 ∨ q = 34 ∨ ∃ k, k < 8 ∧ q = 63 + 27 * k) : StC (nwP c x) q A := by
  have hb : q + 27 ≤ 279 := by
    rcases hq with h | h | ⟨k, hk, h⟩ <;> omega
  have hn := hw.2.2.2.1
  have lo : ∀ a, a < gN c → ∀ j, gI (nwP c x) a j = gI c a j := fun a ha j => gI_nwP_lo ha j
  obtain ⟨⟨a1, a2⟩, ⟨b1, b2⟩, c1, d1, d2, d3⟩ := h
  have pt : ∀ {r : Nat} {p : Pt}, okP c r → PtC c r p → PtC (nwP c x) r p := fun ho ⟨g1, g2, g3⟩ => by
    have h1 := ho.2
    have h2 := hw.2.2.2.2.1
    have h3 := okP_lo ho
    refine ⟨(lo _ (by omega) _).trans g1, (gL_nwP_lo (by omega)).trans g2, fun k k0 k1 => (lo _ (by omega) _).trans (g3 k k0 k1)⟩
  refine ⟨⟨(lo _ (by omega) _).trans a1, fun p p0 p1 => ⟨(lo _ (by omega) _).trans (a2 p p0 p1).1, (lo _ (by omega) _).trans (a2 p p0 p1).2⟩⟩, ⟨(lo _ (by omega) _).trans b1, fun p p0 p1 => (lo _ (by omega) _).trans (b2 p p0 p1)⟩, fun p p0 p1 => (lo _ (by omega) _).trans (c1 p p0 p1), (lo _ (by omega) _).trans d1, d2, fun j j0 j1 => ?_⟩
  have hr := d2.1 j j0 (by have := hI.2.2.2.2.1; omega)
  have hk := hw.2.2.1 _ (kd_row (r := gR c (q + 8 + 1) j) hq (by omega) (by omega))
  obtain ⟨⟨k1, k2, k3⟩, ⟨ka, kb⟩, kc⟩ := d3 j j0 j1
  show SbC (nwP c x) (gR c (q + 8 + 1) j) (A.T j)
  exact ⟨⟨(lo _ (by omega) _).trans k1, (lo _ (by omega) _).trans k2, (lo _ (by omega) _).trans k3⟩, ⟨ka, pt hk.1 kb⟩, fun z => ⟨(kc z).1, pt hk.2 (kc z).2⟩⟩
theorem ClC.nw {x : Int} (h : ClC c W) (hI : InvW W) (hw : WtE c) : ClC (nwP c x) W := by
  have hn := hw.2.2.2.1
  have lo : ∀ a, a < gN c → ∀ j, gI (nwP c x) a j = gI c a j := fun a ha j => gI_nwP_lo ha j
  obtain ⟨g1, g2, ⟨g3, g4⟩, g5, g6, g8⟩ := h
  have n8 := hI.2.2.2.1
  refine ⟨g1.nw hI.1 hw (Or.inl rfl), g2, ⟨(lo 0 (by omega) 1).trans g3, fun j j0 j1 => (lo 1 (by omega) j).trans (g4 j j0 j1)⟩, (lo 61 (by omega) 1).trans g5, g6, fun k k0 k1 => ?_⟩
  exact (g8 k k0 k1).nw (hI.2.2.2.2 k k0 k1) hw (Or.inr (Or.inr (g6.1 (W.hn - 1 - k) (by omega) (by omega)).1))
abbrev alA (W : Wd) (b e sp : Int) : Prop := (times b e ∧ 0 ≤ sp ∧ sp ≤ 3) ∧ ¬ 16 ≤ W.A.tn ∧ ¬ W.tb = 0 ∧ wbQ W = -9
theorem c_addA (h : ClC c W) (hI : InvW W) {b e sp : Int} {J : Prop} {R : Int → Prop} (hR : ∀ r, addS W b e sp = mkR r W → ¬ alA W b e sp → R r) (hJ : alA W b e sp → J) : wpA J R b e sp c := by
  unfold addS at hR
  have hn := hI.1.2.2.2.2.1
  have n0 := hI.1.2.2.2.1
  have hb := hI.2.1
  have hwr := wbG_rg W.tb W.B W.tb.toNat 0
  have et : gI c 0 1 = W.tb := h.2.2.1.1
  have en : gI c (4 + 8) 2 = W.A.tn := h.1.2.2.2.1
  unfold wpA
  refine time_sp (fun h1 => ⟨fun z => absurd z (by decide), fun _ => within_sp (fun h2 => ⟨fun z => absurd z (by decide), fun _ => ?_⟩) (fun h2 => ⟨fun _ => ?_, fun z => absurd rfl z⟩)⟩) (fun h1 => ⟨fun _ => ?_, fun z => absurd rfl z⟩)
  · rw [if_neg (fun z => z ⟨h1, h2⟩)] at hR
    refine ⟨fun z => ⟨fun _ => ?_, fun y => absurd rfl y⟩, fun z => ⟨fun y => absurd y (by decide), fun _ => ?_⟩⟩
    · rw [en] at z
      rw [if_neg (by omega)] at hR
      unfold wpA_35
      rw [et]
      refine ⟨fun y => ?_, fun y => wrongBlank_sp h hI ⟨fun w => hJ ⟨⟨h1, h2⟩, by omega, y, w⟩, fun w => ⟨?_, ?_⟩⟩⟩
      · rw [if_pos y] at hR; exact hR _ rfl (fun u => u.2.2.1 y)
      · have hwr2 := hwr.resolve_left w
        have : wbQ W = wbG W.tb W.B W.tb.toNat 0 := rfl
        exact rgO (by omega) (by omega)
      · rw [if_neg y, if_pos w] at hR; exact hR _ rfl (fun u => w u.2.2.2)
    · rw [en] at z
      rw [if_pos (by omega)] at hR; exact hR _ rfl (fun u => u.2.1 (by omega))
  · rw [if_pos (fun z => h2 z.2)] at hR; exact hR _ rfl (fun u => h2 u.1.2)
  · rw [if_pos (fun z => h1 z.1)] at hR; exact hR _ rfl (fun u => h1 u.1.1)
theorem addS_al {b e sp : Int} (ha : alA W b e sp) : addS W b e sp = mkR (posS (bgS W.A.T) b W.A.tn.toNat) (setA (pushW W) (setT W.A (W.A.tn + 1) (insF W.A.T (posS (bgS W.A.T) b W.A.tn.toNat) (mkS b e 1 (mkP0 sp W.tb W.B) (mkP0 sp W.tb W.B))))) := by
  unfold addS
  rw [if_neg (fun z => z ha.1), if_neg ha.2.1, if_neg ha.2.2.1, if_neg (fun u => u ha.2.2.2)]
theorem addS_no {b e sp : Int} (ha : ¬ alA W b e sp) : (addS W b e sp).W = W := by
  unfold addS
  by_cases h1 : times b e ∧ 0 ≤ sp ∧ sp ≤ 3
  · rw [if_neg (fun z => z h1)]
    by_cases h2 : 16 ≤ W.A.tn
    · rw [if_pos h2]; rfl
    · rw [if_neg h2]
      by_cases h3 : W.tb = 0
      · rw [if_pos h3]; rfl
      · rw [if_neg h3]
        by_cases h4 : wbQ W = -9
        · exact absurd ⟨h1, h2, h3, h4⟩ ha
        · rw [if_pos h4]; rfl
  · rw [if_pos h1]; rfl
theorem c_add64 (h : ClC c W) (hI : InvW W) {b e sp : Int} (ha : alA W b e sp) {Q : Int → Sg → Prop} (hQ : ∀ c', ClC c' (addS W b e sp).W → Q (addS W b e sp).r c') : wj_X9_add_64 b e sp c Q := by
  rw [addS_al ha] at hQ
  have n0 := hI.1.2.2.2.1
  have hb := hI.2.1
  have z := ha.2.1
  refine record_sp h hI (fun c1 hf1 hW => ?_)
  have tb1 : gI c1 0 1 = W.tb := hW.2.2.1.1
  have hk : kpP c1 = W.tb := by unfold kpP; rw [tb1]; omega
  refine ⟨fun j j0 j1 => ?_, fun hwt => ?_⟩
  · have e1 : gI c1 1 j = W.B j := hW.2.2.1.2 j j0 (by show j < W.tb; omega)
    have := hb.2.2 j j0 (by omega)
    rw [e1]
    omega
  · have hN := hW.nw (x := sp) hI.push hwt
    have hn293 := hwt.2.2.2.1
    have hp : PtC (nwP c1 sp) (gN c1) (mkP0 sp W.tb W.B) := by
      refine ⟨?_, ?_, fun k k0 k1 => ?_⟩
      · rw [gI_nwP, if_pos ⟨rfl, rfl⟩]; rfl
      · rw [gL_nwP, if_pos rfl]; exact hk
      · have k1 : k < W.tb := k1
        rw [gI_nwP, if_neg (by omega), if_pos ⟨rfl, k0, by omega⟩]
        exact hW.2.2.1.2 k k0 k1
    refine insert_sp hN.1.2.2.2 n0 (by show W.A.tn < 16; omega) tr12 (Or.inr hn293) (t := mkP0 sp W.tb W.B) hp (fun c2 hf2 hT => ?_)
    exact hQ c2 (hN.now hI.push (hf2.mono (by omega) (by omega)) (hN.1.tr hf2 hT))
end ADD
