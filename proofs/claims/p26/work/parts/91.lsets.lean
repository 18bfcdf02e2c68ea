/-! the law: pieces, shot changes, subtitles, settings are set -/
def dfv (A : St) : Prop := A.v 0 = 2 ∧ A.v 1 = 24 ∧ A.v 2 = 2 ∧ A.v 3 = 6 ∧ A.v 4 = 16
def seW (W : Wd) (k x : Int) : Wd := setA (pushW W) (setSe W.A (upF W.A.v k x))
theorem subQ_0 {A : St} {i : Int} (h0 : 0 ≤ i) (h1 : i < A.tn) : subQ A i 0 = (A.T i).b := by
  unfold subQ
  rw [if_neg (fun z => z ⟨h0, h1⟩), if_pos rfl]
theorem subQ_1 {A : St} {i : Int} (h0 : 0 ≤ i) (h1 : i < A.tn) : subQ A i 1 = (A.T i).e := by
  unfold subQ
  rw [if_neg (fun z => z ⟨h0, h1⟩), if_neg (by decide), if_pos rfl]
theorem subQ_2 {A : St} {i : Int} (h0 : 0 ≤ i) (h1 : i < A.tn) : subQ A i 2 = (A.T i).p := by
  unfold subQ
  rw [if_neg (fun z => z ⟨h0, h1⟩), if_neg (by decide), if_neg (by decide), if_pos rfl]
theorem subQ_3 {A : St} {i : Int} (h0 : 0 ≤ i) (h1 : i < A.tn) : subQ A i 3 = chS (A.T i) := by
  unfold subQ
  rw [if_neg (fun z => z ⟨h0, h1⟩), if_neg (by decide), if_neg (by decide), if_neg (by decide), if_pos rfl]
theorem subQ_4 {A : St} {i : Int} (h0 : 0 ≤ i) (h1 : i < A.tn) : subQ A i 4 = rdS A.v (A.T i) := by
  unfold subQ
  rw [if_neg (fun z => z ⟨h0, h1⟩), if_neg (by decide), if_neg (by decide), if_neg (by decide), if_neg (by decide), if_pos rfl]
theorem subQ_5 {A : St} {i : Int} (h0 : 0 ≤ i) (h1 : i < A.tn) : subQ A i 5 = ftS A i := by
  unfold subQ
  rw [if_neg (fun z => z ⟨h0, h1⟩), if_neg (by decide), if_neg (by decide), if_neg (by decide), if_neg (by decide), if_neg (by decide), if_pos rfl]
theorem subQ_6 {A : St} {i : Int} (h0 : 0 ≤ i) (h1 : i < A.tn) : subQ A i 6 = nxS A.tn A.T i := by
  unfold subQ
  rw [if_neg (fun z => z ⟨h0, h1⟩), if_neg (by decide), if_neg (by decide), if_neg (by decide), if_neg (by decide), if_neg (by decide), if_neg (by decide), if_pos rfl]
section LAW2
variable {c : Sg} {W : Wd} {sl : Int} {sx : Int → Int}
theorem set_sp {k x : Int} (h : ClC c W) (hI : InvW W) (k0 : 0 ≤ k ∧ k < 5) (h1 : tabE 6 k.toNat ≤ x) (h2 : x ≤ tabE 7 k.toNat) {Q : Int → Sg → Prop} (hQ : ∀ c', ClC c' (seW W k x) → InvW (seW W k x) → Q (W.A.v k) c') : wp_X9_set k x c Q := by
  have e : setS W k x = mkR (W.A.v k) (seW W k x) := by
    unfold setS
    rw [if_neg (fun z => z ⟨k0.1, k0.2, h1, h2⟩)]
    rfl
  have hi := inv_set hI k x
  rw [e] at hi
  refine c_set h hI (fun c' hc => ?_)
  rw [e] at hc ⊢
  exact hQ c' hc hi
theorem setsE_sp (h : ClC c W) (hI : InvW W) (hv : dfv W.A) {Q : Int → Sg → Prop} (hQ : ∀ c' W', ClC c' W' → InvW W' → W'.A.tn = W.A.tn → Q 1 c') : wj_L_sets_276 sl sx 1 c Q := by
  obtain ⟨v0, v1, v2, v3, v4⟩ := hv
  refine ⟨fun z => absurd z (by decide), fun _ => cell_sp (by omega) ?_⟩
  have c0 := tmod_rg (m := 6) (cel_rg sl sx 51).1 (by omega)
  refine ⟨rgO (by omega) (by omega), set_sp h hI (by omega) (by show 1 ≤ _; omega) (by show _ ≤ (20 : Int); omega) (fun c1 h1 i1 => ⟨fun _ => ?_, fun z => absurd v0 z⟩)⟩
  refine cell_sp (by omega) ?_
  have c2 := tmod_rg (m := 60) (cel_rg sl sx 52).1 (by omega)
  refine ⟨rgO (by omega) (by omega), set_sp h1 i1 (by omega) (by show 1 ≤ _; omega) (by show _ ≤ (200 : Int); omega) (fun c2 h2 i2 => ⟨fun _ => ?_, fun z => absurd v1 z⟩)⟩
  refine cell_sp (by omega) ?_
  have c3 := tmod_rg (m := 20) (cel_rg sl sx 53).1 (by omega)
  refine ⟨rgO (by omega) (by omega), set_sp h2 i2 (by omega) (by show 0 ≤ _; omega) (by show _ ≤ (50 : Int); omega) (fun c3 h3 i3 => ⟨fun _ => ?_, fun z => absurd v2 z⟩)⟩
  refine ⟨fun z => absurd z (by decide), fun _ => cell_sp (by omega) ?_⟩
  have c4 := tmod_rg (m := 20) (cel_rg sl sx 54).1 (by omega)
  refine ⟨rgO (by omega) (by omega), set_sp h3 i3 (by omega) (by show 0 ≤ _; omega) (by show _ ≤ (50 : Int); omega) (fun c4 h4 i4 => ⟨fun _ => ?_, fun z => absurd v3 z⟩)⟩
  refine cell_sp (by omega) ?_
  have c5 := tmod_rg (m := 33) (cel_rg sl sx 55).1 (by omega)
  refine ⟨rgO (by omega) (by omega), set_sp h4 i4 (by omega) (by show 8 ≤ _; omega) (by show _ ≤ (40 : Int); omega) (fun c5 h5 i5 => ⟨fun _ => ?_, fun z => absurd v4 z⟩)⟩
  exact hQ c5 _ h5 i5 rfl
theorem setsA_sp (h : ClC c W) (hI : InvW W) (hv : dfv W.A) (hn : W.A.tn = 0) {Q : Int → Sg → Prop} (hQ : ∀ c' W', ClC c' W' → InvW W' → W'.A.tn = 1 + Int.tmod (cel sl sx 22) 6 → Q 1 c') : wj_L_sets_128 sl sx 1 c Q := by
  refine cell_sp (by omega) ?_
  have hm := tmod_rg (m := 6) (cel_rg sl sx 22).1 (by omega)
  intro x4 e4
  refine ⟨rgO (by omega) (by omega), fun P hP => ⟨by omega, by omega, ?_⟩⟩
  refine lq3 (P := P) (fun _ x5 _ => (x4 - x5).toNat) (fun x2 x5 t => x2 = 1 ∧ 0 ≤ x5 ∧ x5 ≤ x4 ∧ ∃ W', ClC t W' ∧ InvW W' ∧ dfv W'.A ∧ W'.A.tn = x5) ?_ 1 0 c ⟨rfl, by omega, by omega, W, h, hI, hv, hn⟩
  rintro x2 x5 t ⟨rfl, k0, k1, W1, h1, i1, v1, n1⟩ ih
  refine hP 1 x5 t ⟨fun z => ⟨k0, by omega, setsE_sp h1 i1 v1 (fun c' W' a1 a2 a3 => hQ c' W' a1 a2 (by omega))⟩, fun z => ⟨fun y => absurd y (by decide), fun _ => ⟨rgO (by omega) (by omega), k0, by omega, cell_sp (by omega) ⟨k0, by omega, ?_⟩⟩⟩⟩
  refine writes_sp (cel_rg _ _ _).1 h1 i1 (fun t2 W2 h2 i2 s2 tb2 wb2 => ⟨rgO (by omega) (by omega), k0, by omega, cell_sp (by omega) ?_⟩)
  have m6 := tmod_rg (m := 300) (cel_rg sl sx (30 + x5)).1 (by omega)
  intro x6 e6
  refine ⟨rgO (by omega) (by omega), rgO (by omega) (by omega), k0, by omega, cell_sp (by omega) ?_⟩
  have m7 := tmod_rg (m := 120) (cel_rg sl sx (37 + x5)).1 (by omega)
  intro x7 e7
  refine ⟨rgO (by omega) (by omega), rgO (by omega) (by omega), k0, by omega, cell_sp (by omega) ?_⟩
  have m8 := tmod_rg (m := 4) (cel_rg sl sx (44 + x5)).1 (by omega)
  generalize hsp : Int.tmod (cel sl sx (44 + x5)) 4 = sp at m8
  have hal : alA W2 x6 x7 sp := ⟨⟨⟨by omega, by omega, by omega⟩, by omega, by omega⟩, by rw [s2.1]; omega, tb2, wb2⟩
  have eA : W2.A.tn = x5 := by rw [s2.1]; exact n1
  refine ⟨rgO (by omega) (by omega), k0, by omega, c_addA h2 i2 (fun r _ z => absurd hal z) (fun _ => c_add64 h2 i2 hal (fun t3 h3 => ?_))⟩
  have i3 := inv_add i2 x6 x7 sp
  have hr := posS_le (bgS W2.A.T) x6 W2.A.tn.toNat
  rw [addS_al hal] at h3 i3 ⊢
  obtain ⟨r, er⟩ : ∃ z : Int, z = (posS (bgS W2.A.T) x6 W2.A.tn.toNat : Int) := ⟨_, rfl⟩
  rw [← er] at h3 i3 ⊢
  obtain ⟨W3, e3⟩ : ∃ z : Wd, z = setA (pushW W2) (setT W2.A (W2.A.tn + 1) (insF W2.A.T r (mkS x6 x7 1 (mkP0 sp W2.tb W2.B) (mkP0 sp W2.tb W2.B)))) := ⟨_, rfl⟩
  rw [← e3] at h3 i3 ⊢
  have h3 : ClC t3 W3 := h3
  have i3 : InvW W3 := i3
  have n3 : W3.A.tn = x5 + 1 := by rw [e3]; show W2.A.tn + 1 = _; omega
  have v3 : dfv W3.A := by
    rw [e3]
    show dfv W2.A
    rw [s2.1]
    exact v1
  have T3 : W3.A.T r = mkS x6 x7 1 (mkP0 sp W2.tb W2.B) (mkP0 sp W2.tb W2.B) := by
    rw [e3]
    show insF W2.A.T r _ r = _
    unfold insF
    rw [if_neg (by omega), if_pos rfl]
  have q0 : subQ W3.A r 0 = x6 := by rw [subQ_0 (by omega) (by omega), T3]; rfl
  have q1 : subQ W3.A r 1 = x7 := by rw [subQ_1 (by omega) (by omega), T3]; rfl
  have go : wj_L_sets_269 P sl sx x4 x5 1 t3 Q := ⟨rgO (by omega) (by omega), by omega, by omega, ih 1 (x5 + 1) t3 ⟨rfl, by omega, by omega, W3, h3, i3, v3, n3⟩ (by omega)⟩
  have fin : ((1 : Int) = 0 → wj_L_sets_268 P sl sx x4 x5 t3 Q) ∧ (¬ (1 : Int) = 0 → ((r < 0 → wj_L_sets_268 P sl sx x4 x5 t3 Q) ∧ (¬ r < 0 → ((x5 < r → wj_L_sets_268 P sl sx x4 x5 t3 Q) ∧ (¬ x5 < r → ((0 : Int) ≤ x5 ∧ (x5 : Int) < 6 ∧ wp_X9_subtitle r 0 t3 (fun v147 => ((v147 = x6 → ((0 : Int) ≤ x5 ∧ (x5 : Int) < 6 ∧ wp_X9_subtitle r 1 t3 (fun v153 => ((v153 = x7 → wj_L_sets_269 P sl sx x4 x5 1 t3 Q) ∧ (¬ v153 = x7 → wj_L_sets_268 P sl sx x4 x5 t3 Q))))) ∧ (¬ v147 = x6 → wj_L_sets_268 P sl sx x4 x5 t3 Q))))))))) := ⟨fun y => absurd y (by decide), fun _ => ⟨fun y => absurd y (by omega), fun _ => ⟨fun y => absurd y (by omega), fun _ => ⟨k0, by omega, c_subtitle h3 i3 ⟨fun _ => ⟨k0, by omega, c_subtitle h3 i3 ⟨fun _ => go, fun y => absurd q1 y⟩⟩, fun y => absurd q0 y⟩⟩⟩⟩⟩
  exact fin
theorem setsS_sp (h : ClC c W) (hI : InvW W) (hv : dfv W.A) (hn : W.A.tn = 0) (hs : W.A.sn = 0) {Q : Int → Sg → Prop} (hQ : ∀ c' W', ClC c' W' → InvW W' → W'.A.tn = 1 + Int.tmod (cel sl sx 22) 6 → Q 1 c') : wj_L_sets_72 sl sx 1 c Q := by
  intro P hP
  have hm := tmod_rg (m := 8) (cel_rg sl sx 13).1 (by omega)
  refine lq3 (P := P) (fun _ x4 _ => (8 - x4).toNat) (fun x2 x4 t => x2 = 1 ∧ 0 ≤ x4 ∧ x4 ≤ 7 ∧ ∃ W', ClC t W' ∧ InvW W' ∧ dfv W'.A ∧ W'.A.tn = 0 ∧ W'.A.sn ≤ x4) ?_ 1 0 c ⟨rfl, by omega, by omega, W, h, hI, hv, hn, by omega⟩
  rintro x2 x4 t ⟨rfl, k0, k1, W1, h1, i1, v1, n1, s1⟩ ih
  refine hP 1 x4 t (cell_sp (by omega) ⟨rgO (by omega) (by omega), fun z => setsA_sp h1 i1 v1 n1 hQ, fun z => ⟨fun y => absurd y (by decide), fun _ => ⟨rgO (by omega) (by omega), cell_sp (by omega) ?_⟩⟩⟩)
  have m5 := tmod_rg (m := 500) (cel_rg sl sx (14 + x4)).1 (by omega)
  generalize hx : 1 + Int.tmod (cel sl sx (14 + x4)) 500 = x at *
  have i2 := inv_shot i1 x 1
  have s0 := i1.1.2.1.1
  have hnr := nrS_none i1.1.2.1 x
  refine ⟨rgO (by omega) (by omega), c_shot h1 i1 (fun t2 h2 => ?_)⟩
  have go : ∀ r W2, shotS W1 x 1 = mkR r W2 → 0 < r → dfv W2.A → W2.A.tn = 0 → W2.A.sn ≤ x4 + 1 → ((shotS W1 x 1).r ≤ 0 → wj_L_sets_121 P sl sx x4 0 t2 Q) ∧ (¬ (shotS W1 x 1).r ≤ 0 → wj_L_sets_121 P sl sx x4 1 t2 Q) := fun r W2 e r0 a1 a2 a3 => by
    rw [e] at h2 i2 ⊢
    refine ⟨fun y => ?_, fun _ => ⟨rgO (by omega) (by omega), ih 1 (x4 + 1) t2 ⟨rfl, by omega, by omega, W2, h2, i2, a1, a2, a3⟩ (by omega)⟩⟩
    have y : r ≤ 0 := y
    omega
  by_cases hno : noSh W1.A x
  · refine go (W1.A.sn + 1) (setA (pushW W1) (setSh W1.A (W1.A.sn + 1) (insF W1.A.f (posS W1.A.f x W1.A.sn.toNat) x))) ?_ (by omega) ?_ ?_ ?_
    · unfold shotS
      rw [if_neg (by omega), if_neg (fun z => by have := z.2.2; omega), if_pos ⟨by decide, hno⟩]
    · exact v1
    · exact n1
    · show W1.A.sn + 1 ≤ x4 + 1
      omega
  · have hex : ∃ j, 0 ≤ j ∧ j < W1.A.sn ∧ W1.A.f j = x := Classical.byContradiction fun z => hno (hnr.mpr z)
    obtain ⟨j, j0, j1, -⟩ := hex
    refine go W1.A.sn (setA (pushW W1) W1.A) ?_ (by omega) v1 n1 (by show W1.A.sn ≤ x4 + 1; omega)
    unfold shotS
    rw [if_neg (by omega), if_neg (fun z => hno z.2.1), if_neg (fun z => hno z.2), if_neg (fun z => absurd z.1 (by decide))]
theorem sets_sp (h : ClC c W) (hI : InvW W) (hv : dfv W.A) (hn : W.A.tn = 0) (hs : W.A.sn = 0) (hp : W.A.pn = 0) {Q : Int → Sg → Prop} (hQ : ∀ c' W', ClC c' W' → InvW W' → W'.A.tn = 1 + Int.tmod (cel sl sx 22) 6 → Q 1 c') : wp_L_sets sl sx c Q := by
  refine cell_sp (by omega) ?_
  have hm := tmod_rg (m := 6) (cel_rg sl sx 0).1 (by omega)
  intro x3 e3
  refine ⟨rgO (by omega) (by omega), fun P hP => ?_⟩
  refine lq3 (P := P) (fun _ x4 _ => (x3 - x4).toNat) (fun x2 x4 t => x2 = 1 ∧ 0 ≤ x4 ∧ x4 ≤ x3 ∧ ∃ W', ClC t W' ∧ InvW W' ∧ dfv W'.A ∧ W'.A.tn = 0 ∧ W'.A.sn = 0 ∧ W'.A.pn = x4 ∧ frS W'.A ≤ 200 * x4) ?_ 1 0 c ⟨rfl, by omega, by omega, W, h, hI, hv, hn, hs, hp, by
    have e : frS W.A = smS W.A.L W.A.pn.toNat := rfl
    rw [e, hp]
    show (0 : Int) ≤ 200 * 0
    omega⟩
  rintro x2 x4 t ⟨rfl, k0, k1, W1, h1, i1, v1, n1, s1, p1, f1⟩ ih
  refine hP 1 x4 t ⟨fun z => setsS_sp h1 i1 v1 n1 s1 hQ, fun z => ⟨fun y => absurd y (by decide), fun _ => ⟨rgO (by omega) (by omega), cell_sp (by omega) ⟨rgO (by omega) (by omega), cell_sp (by omega) ?_⟩⟩⟩⟩
  have a1 := tmod_rg (m := 300) (cel_rg sl sx (1 + x4)).1 (by omega)
  have a2 := tmod_rg (m := 200) (cel_rg sl sx (7 + x4)).1 (by omega)
  generalize Int.tmod (cel sl sx (1 + x4)) 300 = x at *
  generalize Int.tmod (cel sl sx (7 + x4)) 200 = y at *
  have i2 := inv_piece i1 x (1 + y)
  have e : pieceS W1 x (1 + y) = mkR W1.A.pn (setA (pushW W1) (setCu W1.A (W1.A.pn + 1) (upF W1.A.F W1.A.pn x) (upF W1.A.L W1.A.pn (1 + y)))) := by
    unfold pieceS
    rw [if_neg (by omega), if_neg (by omega)]
  refine ⟨rgO (by omega) (by omega), rgO (by omega) (by omega), c_piece h1 i1 (fun t2 h2 => ?_)⟩
  rw [e] at h2 i2 ⊢
  refine ⟨fun _ => ⟨rgO (by omega) (by omega), ih 1 (x4 + 1) t2 ⟨rfl, by omega, by omega, _, h2, i2, v1, n1, s1, by show W1.A.pn + 1 = x4 + 1; omega, ?_⟩ (by omega)⟩, fun w => absurd p1 w⟩
  have e2 : frS W1.A = smS W1.A.L W1.A.pn.toNat := rfl
  show smS (upF W1.A.L W1.A.pn (1 + y)) (W1.A.pn + 1).toNat ≤ _
  rw [smS_up (by omega)]
  omega
end LAW2
